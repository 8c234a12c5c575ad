/-! the reference: each method a function, and its contract -/
def b_Mod_part_68 (I : IM)  (y0 : Int32) : Option (Int32) := some (y0)
set_option maxRecDepth 20000 in
set_option maxHeartbeats 4000000 in
theorem gb_Mod_part_68 {Δ : Dx} {X : Lx} (hX : MX Δ X)   {I : IM} {Γ : Cx} (hk : Γ.k = 0) {r : Int32} (hT : Tg Δ Γ (some (.int r)) NN (I, X) 0 0)  {y0 : Int32} (h : b_Mod_part_68 I  y0 = some r) : GG Δ m_Mod_part Γ NN 0 0 (I, X) 68 [none, none, none, none] [.int (y0)] := by
  unfold b_Mod_part_68 at h
  cases h
  exact g_iret (pc := 68) rfl (dd d_Mod_part 36 rfl) hT
def b_Mod_part_24 (I : IM)  (x1 : Int32) (x2 : Int32) (y0 : Int32) : Option (Int32) := if y0 = 0 then (some (if x2 = 0 then 0 else x1)) else (if x2 = 0 then (chk (inb (x1 - 1000000) 60) <| b_Mod_part_68 I  (I A_seconds (x1 - 1000000 : Int32).toNatClampNeg)) else (chk (inb (x1 - 1000000) 60) <| b_Mod_part_68 I  (I A_firsts (x1 - 1000000 : Int32).toNatClampNeg)))
set_option maxRecDepth 20000 in
set_option maxHeartbeats 4000000 in
theorem gb_Mod_part_24 {Δ : Dx} {X : Lx} (hX : MX Δ X)   {I : IM} {Γ : Cx} (hk : Γ.k = 0) {r : Int32} (hT : Tg Δ Γ (some (.int r)) NN (I, X) 0 0)  {x1 : Int32} {x2 : Int32} {y0 : Int32} (h : b_Mod_part_24 I  x1 x2 y0 = some r) : GG Δ m_Mod_part Γ NN 0 0 (I, X) 24 [some (.ref (Δ.ba + MO)), some (.int (x1)), some (.int (x2)), none] [.int (y0)] := by
  unfold b_Mod_part_24 at h
  refine g_istore_n (pc := 24) (dd d_Mod_part 12 rfl) (by decide) ?_
  refine g_iload_n (pc := 25) (dd d_Mod_part 13 rfl) rfl ?_
  refine g_ifeq (pc := 26) (tgt := 59) (dd d_Mod_part 14 rfl) (by decide) (fun q8 => ?_) (fun q8 => ?_)
  · replace h := ite_t h q8
    refine g_iload_n (pc := 59) (dd d_Mod_part 31 rfl) rfl ?_
    suffices K60 : ∀ z : Int32, z = (if x2 = 0 then 0 else x1 : Int32) → GG Δ m_Mod_part Γ NN 0 0 (I, X) 68 [some (.ref (Δ.ba + MO)), some (.int (x1)), some (.int (x2)), some (.int (y0))] [.int (z)] by
      refine g_ifeq (pc := 60) (tgt := 67) (dd d_Mod_part 32 rfl) (by decide) (fun q9 => ?_) (fun q9 => ?_)
      · skip
        refine g_iconst (pc := 67) (v := 0) (dd d_Mod_part 35 rfl) (by decide) ?_
        exact K60 _ (by rw [if_pos q9])
      · skip
        refine g_iload_n (pc := 63) (dd d_Mod_part 33 rfl) rfl ?_
        refine g_goto (pc := 64) (tgt := 68) (dd d_Mod_part 34 rfl) (by decide) ?_
        exact K60 _ (by rw [if_neg q9])
    intro z hz
    subst hz
    cases h
    exact g_iret (pc := 68) rfl (dd d_Mod_part 36 rfl) hT
  · replace h := ite_f h q8
    refine g_iload_n (pc := 29) (dd d_Mod_part 15 rfl) rfl ?_
    refine g_ifeq (pc := 30) (tgt := 46) (dd d_Mod_part 16 rfl) (by decide) (fun q10 => ?_) (fun q10 => ?_)
    · replace h := ite_t h q10
      refine g_aload_n (pc := 46) (dd d_Mod_part 24 rfl) rfl ?_
      refine g_getr (pc := 47) (dd d_Mod_part 25 rfl) f_Mod_92 ob_MO rfl (mr_seconds hX) ?_
      refine g_iload_n (pc := 50) (dd d_Mod_part 26 rfl) rfl ?_
      refine g_ldcw (pc := 51) (dd d_Mod_part 27 rfl) c_Mod_513 ?_
      refine g_isub (pc := 54) (dd d_Mod_part 28 rfl) ?_
      obtain ⟨c11, h⟩ := chk_e h
      refine g_iald (pc := 55) (dd d_Mod_part 29 rfl) ar_A_seconds c11 ?_
      refine g_goto (pc := 56) (tgt := 68) (dd d_Mod_part 30 rfl) (by decide) ?_
      refine g_drop [0, 1, 2, 3] ?_
      exact gb_Mod_part_68 hX hk hT  h
    · replace h := ite_f h q10
      refine g_aload_n (pc := 33) (dd d_Mod_part 17 rfl) rfl ?_
      refine g_getr (pc := 34) (dd d_Mod_part 18 rfl) f_Mod_89 ob_MO rfl (mr_firsts hX) ?_
      refine g_iload_n (pc := 37) (dd d_Mod_part 19 rfl) rfl ?_
      refine g_ldcw (pc := 38) (dd d_Mod_part 20 rfl) c_Mod_513 ?_
      refine g_isub (pc := 41) (dd d_Mod_part 21 rfl) ?_
      obtain ⟨c12, h⟩ := chk_e h
      refine g_iald (pc := 42) (dd d_Mod_part 22 rfl) ar_A_firsts c12 ?_
      refine g_goto (pc := 43) (tgt := 68) (dd d_Mod_part 23 rfl) (by decide) ?_
      refine g_drop [0, 1, 2, 3] ?_
      exact gb_Mod_part_68 hX hk hT  h
def b_Mod_part_23 (I : IM)  (x1 : Int32) (x2 : Int32) : Option (Int32) := b_Mod_part_24 I  x1 x2 0
set_option maxRecDepth 20000 in
set_option maxHeartbeats 4000000 in
theorem gb_Mod_part_23 {Δ : Dx} {X : Lx} (hX : MX Δ X)   {I : IM} {Γ : Cx} (hk : Γ.k = 0) {r : Int32} (hT : Tg Δ Γ (some (.int r)) NN (I, X) 0 0)  {x1 : Int32} {x2 : Int32} (h : b_Mod_part_23 I  x1 x2 = some r) : GG Δ m_Mod_part Γ NN 0 0 (I, X) 23 [some (.ref (Δ.ba + MO)), some (.int (x1)), some (.int (x2)), none] [] := by
  unfold b_Mod_part_23 at h
  refine g_iconst (pc := 23) (v := 0) (dd d_Mod_part 11 rfl) (by decide) ?_
  exact gb_Mod_part_24 hX hk hT  h
def f_Mod_part (x1 : Int32) (x2 : Int32) (I : IM) : Option (Int32) := if x1 < (1000000 : Int32) then (b_Mod_part_23 I  x1 x2) else (if (if (I MO 55 : Int32) ≤ (x1 - 1000000 : Int32) then 0 else 1 : Int32) = 0 then (some (if x2 = 0 then 0 else x1)) else (if x2 = 0 then (chk (inb (x1 - 1000000) 60) <| b_Mod_part_68 I  (I A_seconds (x1 - 1000000 : Int32).toNatClampNeg)) else (chk (inb (x1 - 1000000) 60) <| b_Mod_part_68 I  (I A_firsts (x1 - 1000000 : Int32).toNatClampNeg))))
set_option maxRecDepth 20000 in
set_option maxHeartbeats 4000000 in
theorem ef_Mod_part {Δ : Dx} {X : Lx} (hX : MX Δ X) {x1 : Int32} {x2 : Int32}  {I : IM}  {r : Int32} (h : f_Mod_part x1 x2 I = some r) : Ev Δ 0 m_Mod_part [.ref (Δ.ba + MO), .int x1, .int x2] (I, X) (some (.int r)) (I, X) := by
  refine ev_of (by decide) (Nat.le_of_ble_eq_true rfl) (fun Γ hk hR hT => ?_)
  change GG Δ m_Mod_part Γ NN 0 0 (I, X) 0 [some (.ref (Δ.ba + MO)), some (.int (x1)), some (.int (x2)), none] []
  unfold f_Mod_part at h
  refine g_iload_n (pc := 0) (dd d_Mod_part 0 rfl) rfl ?_
  refine g_ldcw (pc := 1) (dd d_Mod_part 1 rfl) c_Mod_513 ?_
  refine g_icmplt (pc := 4) (tgt := 23) (dd d_Mod_part 2 rfl) (by decide) (fun q1 => ?_) (fun q1 => ?_)
  · replace h := ite_t h q1
    exact gb_Mod_part_23 hX hk hT  h
  · replace h := ite_f h q1
    refine g_iload_n (pc := 7) (dd d_Mod_part 3 rfl) rfl ?_
    refine g_ldcw (pc := 8) (dd d_Mod_part 4 rfl) c_Mod_513 ?_
    refine g_isub (pc := 11) (dd d_Mod_part 5 rfl) ?_
    refine g_aload_n (pc := 12) (dd d_Mod_part 6 rfl) rfl ?_
    refine g_geti (pc := 13) (dd d_Mod_part 7 rfl) f_Mod_415 ob_MO rfl ?_
    suffices K16 : ∀ z : Int32, z = (if (I MO 55 : Int32) ≤ (x1 - 1000000 : Int32) then 0 else 1 : Int32) → GG Δ m_Mod_part Γ NN 0 0 (I, X) 24 [some (.ref (Δ.ba + MO)), some (.int (x1)), some (.int (x2)), none] [.int (z)] by
      refine g_icmpge (pc := 16) (tgt := 23) (dd d_Mod_part 8 rfl) (by decide) (fun q2 => ?_) (fun q2 => ?_)
      · skip
        refine g_iconst (pc := 23) (v := 0) (dd d_Mod_part 11 rfl) (by decide) ?_
        exact K16 _ (by rw [if_pos q2])
      · skip
        refine g_iconst (pc := 19) (v := 1) (dd d_Mod_part 9 rfl) (by decide) ?_
        refine g_goto (pc := 20) (tgt := 24) (dd d_Mod_part 10 rfl) (by decide) ?_
        exact K16 _ (by rw [if_neg q2])
    intro z hz
    subst hz
    refine g_istore_n (pc := 24) (dd d_Mod_part 12 rfl) (by decide) ?_
    refine g_iload_n (pc := 25) (dd d_Mod_part 13 rfl) rfl ?_
    refine g_ifeq (pc := 26) (tgt := 59) (dd d_Mod_part 14 rfl) (by decide) (fun q3 => ?_) (fun q3 => ?_)
    · replace h := ite_t h q3
      refine g_iload_n (pc := 59) (dd d_Mod_part 31 rfl) rfl ?_
      suffices K60 : ∀ z : Int32, z = (if x2 = 0 then 0 else x1 : Int32) → GG Δ m_Mod_part Γ NN 0 0 (I, X) 68 [some (.ref (Δ.ba + MO)), some (.int (x1)), some (.int (x2)), some (.int (if (I MO 55 : Int32) ≤ (x1 - 1000000 : Int32) then 0 else 1))] [.int (z)] by
        refine g_ifeq (pc := 60) (tgt := 67) (dd d_Mod_part 32 rfl) (by decide) (fun q4 => ?_) (fun q4 => ?_)
        · skip
          refine g_iconst (pc := 67) (v := 0) (dd d_Mod_part 35 rfl) (by decide) ?_
          exact K60 _ (by rw [if_pos q4])
        · skip
          refine g_iload_n (pc := 63) (dd d_Mod_part 33 rfl) rfl ?_
          refine g_goto (pc := 64) (tgt := 68) (dd d_Mod_part 34 rfl) (by decide) ?_
          exact K60 _ (by rw [if_neg q4])
      intro z hz
      subst hz
      cases h
      exact g_iret (pc := 68) rfl (dd d_Mod_part 36 rfl) hT
    · replace h := ite_f h q3
      refine g_iload_n (pc := 29) (dd d_Mod_part 15 rfl) rfl ?_
      refine g_ifeq (pc := 30) (tgt := 46) (dd d_Mod_part 16 rfl) (by decide) (fun q5 => ?_) (fun q5 => ?_)
      · replace h := ite_t h q5
        refine g_aload_n (pc := 46) (dd d_Mod_part 24 rfl) rfl ?_
        refine g_getr (pc := 47) (dd d_Mod_part 25 rfl) f_Mod_92 ob_MO rfl (mr_seconds hX) ?_
        refine g_iload_n (pc := 50) (dd d_Mod_part 26 rfl) rfl ?_
        refine g_ldcw (pc := 51) (dd d_Mod_part 27 rfl) c_Mod_513 ?_
        refine g_isub (pc := 54) (dd d_Mod_part 28 rfl) ?_
        obtain ⟨c6, h⟩ := chk_e h
        refine g_iald (pc := 55) (dd d_Mod_part 29 rfl) ar_A_seconds c6 ?_
        refine g_goto (pc := 56) (tgt := 68) (dd d_Mod_part 30 rfl) (by decide) ?_
        refine g_drop [0, 1, 2, 3] ?_
        exact gb_Mod_part_68 hX hk hT  h
      · replace h := ite_f h q5
        refine g_aload_n (pc := 33) (dd d_Mod_part 17 rfl) rfl ?_
        refine g_getr (pc := 34) (dd d_Mod_part 18 rfl) f_Mod_89 ob_MO rfl (mr_firsts hX) ?_
        refine g_iload_n (pc := 37) (dd d_Mod_part 19 rfl) rfl ?_
        refine g_ldcw (pc := 38) (dd d_Mod_part 20 rfl) c_Mod_513 ?_
        refine g_isub (pc := 41) (dd d_Mod_part 21 rfl) ?_
        obtain ⟨c7, h⟩ := chk_e h
        refine g_iald (pc := 42) (dd d_Mod_part 22 rfl) ar_A_firsts c7 ?_
        refine g_goto (pc := 43) (tgt := 68) (dd d_Mod_part 23 rfl) (by decide) ?_
        refine g_drop [0, 1, 2, 3] ?_
        exact gb_Mod_part_68 hX hk hT  h
def f_Mod_two (n : Nat) (x1 : Int32) (x2 : Int32) (x3 : Int32) (I : IM) : Option (Int32 × IM) := if x1 = 38 then (some (x2 &&& x3, I)) else (if x1 = 43 then (some (x2 + x3, I)) else (if x1 = 45 then (some (x2 - x3, I)) else (if x1 = 60 then (some (if x3 ≤ x2 then 0 else 1, I)) else (if x1 = 94 then (some (x2 ^^^ x3, I)) else (if x1 = 124 then (some (x2 ||| x3, I)) else (if x1 = 202 then (some (if x2 = x3 then 1 else 0, I)) else (if x1 = 203 then (some (if x2 = x3 then 0 else 1, I)) else (if x1 = 204 then (some (if x3 < x2 then 0 else 1, I)) else (Option.bind (f_Mod_pairNumber n x2 x3 I) fun v6 => some (v6.1, v6.2))))))))))
set_option maxRecDepth 20000 in
set_option maxHeartbeats 4000000 in
theorem ef_Mod_two {Δ : Dx} {X : Lx} (hX : MX Δ X) {n : Nat} {x1 : Int32} {x2 : Int32} {x3 : Int32}  {I : IM}  {r : Int32 × IM} (h : f_Mod_two n x1 x2 x3 I = some r) : Ev Δ 1 m_Mod_two [.ref (Δ.ba + MO), .int x1, .int x2, .int x3] (I, X) (some (.int r.1)) (r.2, X) := by
  refine ev_of (by decide) (Nat.le_of_ble_eq_true rfl) (fun Γ hk hR hT => ?_)
  change GG Δ m_Mod_two Γ NN 0 0 (I, X) 0 [some (.ref (Δ.ba + MO)), some (.int (x1)), some (.int (x2)), some (.int (x3))] []
  unfold f_Mod_two at h
  refine g_iload_n (pc := 0) (dd d_Mod_two 0 rfl) rfl ?_
  refine g_lookupC (pc := 1) (dd d_Mod_two 1 rfl) (by decide) (List.forall_mem_cons.mpr ⟨fun w1 => ⟨88, by decide, ?_⟩, List.forall_mem_cons.mpr ⟨fun w1 => ⟨96, by decide, ?_⟩, List.forall_mem_cons.mpr ⟨fun w1 => ⟨100, by decide, ?_⟩, List.forall_mem_cons.mpr ⟨fun w1 => ⟨126, by decide, ?_⟩, List.forall_mem_cons.mpr ⟨fun w1 => ⟨92, by decide, ?_⟩, List.forall_mem_cons.mpr ⟨fun w1 => ⟨84, by decide, ?_⟩, List.forall_mem_cons.mpr ⟨fun w1 => ⟨104, by decide, ?_⟩, List.forall_mem_cons.mpr ⟨fun w1 => ⟨115, by decide, ?_⟩, List.forall_mem_cons.mpr ⟨fun w1 => ⟨137, by decide, ?_⟩, (fun _ h => absurd h List.not_mem_nil)⟩⟩⟩⟩⟩⟩⟩⟩⟩) (fun w1 => ⟨148, by decide, ?_⟩)
  · replace w1 : x1 = 38 := Int32.toInt_inj.mp w1
    replace h := ite_t h w1
    refine g_iload_n (pc := 88) (dd d_Mod_two 6 rfl) rfl ?_
    refine g_iload_n (pc := 89) (dd d_Mod_two 7 rfl) rfl ?_
    refine g_iand (pc := 90) (dd d_Mod_two 8 rfl) ?_
    cases h
    exact g_iret (pc := 91) rfl (dd d_Mod_two 9 rfl) hT
  · replace w1 : x1 = 43 := Int32.toInt_inj.mp w1
    replace h := ite_f h (by rw [w1]; decide)
    replace h := ite_t h w1
    refine g_iload_n (pc := 96) (dd d_Mod_two 14 rfl) rfl ?_
    refine g_iload_n (pc := 97) (dd d_Mod_two 15 rfl) rfl ?_
    refine g_iadd (pc := 98) (dd d_Mod_two 16 rfl) ?_
    cases h
    exact g_iret (pc := 99) rfl (dd d_Mod_two 17 rfl) hT
  · replace w1 : x1 = 45 := Int32.toInt_inj.mp w1
    replace h := ite_f h (by rw [w1]; decide)
    replace h := ite_f h (by rw [w1]; decide)
    replace h := ite_t h w1
    refine g_iload_n (pc := 100) (dd d_Mod_two 18 rfl) rfl ?_
    refine g_iload_n (pc := 101) (dd d_Mod_two 19 rfl) rfl ?_
    refine g_isub (pc := 102) (dd d_Mod_two 20 rfl) ?_
    cases h
    exact g_iret (pc := 103) rfl (dd d_Mod_two 21 rfl) hT
  · replace w1 : x1 = 60 := Int32.toInt_inj.mp w1
    replace h := ite_f h (by rw [w1]; decide)
    replace h := ite_f h (by rw [w1]; decide)
    replace h := ite_f h (by rw [w1]; decide)
    replace h := ite_t h w1
    refine g_iload_n (pc := 126) (dd d_Mod_two 36 rfl) rfl ?_
    refine g_iload_n (pc := 127) (dd d_Mod_two 37 rfl) rfl ?_
    suffices K128 : ∀ z : Int32, z = (if x3 ≤ x2 then 0 else 1 : Int32) → GG Δ m_Mod_two Γ NN 0 0 (I, X) 136 [some (.ref (Δ.ba + MO)), some (.int (x1)), some (.int (x2)), some (.int (x3))] [.int (z)] by
      refine g_icmpge (pc := 128) (tgt := 135) (dd d_Mod_two 38 rfl) (by decide) (fun q2 => ?_) (fun q2 => ?_)
      · skip
        refine g_iconst (pc := 135) (v := 0) (dd d_Mod_two 41 rfl) (by decide) ?_
        exact K128 _ (by rw [if_pos q2])
      · skip
        refine g_iconst (pc := 131) (v := 1) (dd d_Mod_two 39 rfl) (by decide) ?_
        refine g_goto (pc := 132) (tgt := 136) (dd d_Mod_two 40 rfl) (by decide) ?_
        exact K128 _ (by rw [if_neg q2])
    intro z hz
    subst hz
    cases h
    exact g_iret (pc := 136) rfl (dd d_Mod_two 42 rfl) hT
  · replace w1 : x1 = 94 := Int32.toInt_inj.mp w1
    replace h := ite_f h (by rw [w1]; decide)
    replace h := ite_f h (by rw [w1]; decide)
    replace h := ite_f h (by rw [w1]; decide)
    replace h := ite_f h (by rw [w1]; decide)
    replace h := ite_t h w1
    refine g_iload_n (pc := 92) (dd d_Mod_two 10 rfl) rfl ?_
    refine g_iload_n (pc := 93) (dd d_Mod_two 11 rfl) rfl ?_
    refine g_ixor (pc := 94) (dd d_Mod_two 12 rfl) ?_
    cases h
    exact g_iret (pc := 95) rfl (dd d_Mod_two 13 rfl) hT
  · replace w1 : x1 = 124 := Int32.toInt_inj.mp w1
    replace h := ite_f h (by rw [w1]; decide)
    replace h := ite_f h (by rw [w1]; decide)
    replace h := ite_f h (by rw [w1]; decide)
    replace h := ite_f h (by rw [w1]; decide)
    replace h := ite_f h (by rw [w1]; decide)
    replace h := ite_t h w1
    refine g_iload_n (pc := 84) (dd d_Mod_two 2 rfl) rfl ?_
    refine g_iload_n (pc := 85) (dd d_Mod_two 3 rfl) rfl ?_
    refine g_ior (pc := 86) (dd d_Mod_two 4 rfl) ?_
    cases h
    exact g_iret (pc := 87) rfl (dd d_Mod_two 5 rfl) hT
  · replace w1 : x1 = 202 := Int32.toInt_inj.mp w1
    replace h := ite_f h (by rw [w1]; decide)
    replace h := ite_f h (by rw [w1]; decide)
    replace h := ite_f h (by rw [w1]; decide)
    replace h := ite_f h (by rw [w1]; decide)
    replace h := ite_f h (by rw [w1]; decide)
    replace h := ite_f h (by rw [w1]; decide)
    replace h := ite_t h w1
    refine g_iload_n (pc := 104) (dd d_Mod_two 22 rfl) rfl ?_
    refine g_iload_n (pc := 105) (dd d_Mod_two 23 rfl) rfl ?_
    suffices K106 : ∀ z : Int32, z = (if x2 = x3 then 1 else 0 : Int32) → GG Δ m_Mod_two Γ NN 0 0 (I, X) 114 [some (.ref (Δ.ba + MO)), some (.int (x1)), some (.int (x2)), some (.int (x3))] [.int (z)] by
      refine g_icmpne (pc := 106) (tgt := 113) (dd d_Mod_two 24 rfl) (by decide) (fun q3 => ?_) (fun q3 => ?_)
      · skip
        refine g_iconst (pc := 113) (v := 0) (dd d_Mod_two 27 rfl) (by decide) ?_
        exact K106 _ (by rw [if_neg q3])
      · skip
        refine g_iconst (pc := 109) (v := 1) (dd d_Mod_two 25 rfl) (by decide) ?_
        refine g_goto (pc := 110) (tgt := 114) (dd d_Mod_two 26 rfl) (by decide) ?_
        exact K106 _ (by rw [if_pos q3])
    intro z hz
    subst hz
    cases h
    exact g_iret (pc := 114) rfl (dd d_Mod_two 28 rfl) hT
  · replace w1 : x1 = 203 := Int32.toInt_inj.mp w1
    replace h := ite_f h (by rw [w1]; decide)
    replace h := ite_f h (by rw [w1]; decide)
    replace h := ite_f h (by rw [w1]; decide)
    replace h := ite_f h (by rw [w1]; decide)
    replace h := ite_f h (by rw [w1]; decide)
    replace h := ite_f h (by rw [w1]; decide)
    replace h := ite_f h (by rw [w1]; decide)
    replace h := ite_t h w1
    refine g_iload_n (pc := 115) (dd d_Mod_two 29 rfl) rfl ?_
    refine g_iload_n (pc := 116) (dd d_Mod_two 30 rfl) rfl ?_
    suffices K117 : ∀ z : Int32, z = (if x2 = x3 then 0 else 1 : Int32) → GG Δ m_Mod_two Γ NN 0 0 (I, X) 125 [some (.ref (Δ.ba + MO)), some (.int (x1)), some (.int (x2)), some (.int (x3))] [.int (z)] by
      refine g_icmpeq (pc := 117) (tgt := 124) (dd d_Mod_two 31 rfl) (by decide) (fun q4 => ?_) (fun q4 => ?_)
      · skip
        refine g_iconst (pc := 124) (v := 0) (dd d_Mod_two 34 rfl) (by decide) ?_
        exact K117 _ (by rw [if_pos q4])
      · skip
        refine g_iconst (pc := 120) (v := 1) (dd d_Mod_two 32 rfl) (by decide) ?_
        refine g_goto (pc := 121) (tgt := 125) (dd d_Mod_two 33 rfl) (by decide) ?_
        exact K117 _ (by rw [if_neg q4])
    intro z hz
    subst hz
    cases h
    exact g_iret (pc := 125) rfl (dd d_Mod_two 35 rfl) hT
  · replace w1 : x1 = 204 := Int32.toInt_inj.mp w1
    replace h := ite_f h (by rw [w1]; decide)
    replace h := ite_f h (by rw [w1]; decide)
    replace h := ite_f h (by rw [w1]; decide)
    replace h := ite_f h (by rw [w1]; decide)
    replace h := ite_f h (by rw [w1]; decide)
    replace h := ite_f h (by rw [w1]; decide)
    replace h := ite_f h (by rw [w1]; decide)
    replace h := ite_f h (by rw [w1]; decide)
    replace h := ite_t h w1
    refine g_iload_n (pc := 137) (dd d_Mod_two 43 rfl) rfl ?_
    refine g_iload_n (pc := 138) (dd d_Mod_two 44 rfl) rfl ?_
    suffices K139 : ∀ z : Int32, z = (if x3 < x2 then 0 else 1 : Int32) → GG Δ m_Mod_two Γ NN 0 0 (I, X) 147 [some (.ref (Δ.ba + MO)), some (.int (x1)), some (.int (x2)), some (.int (x3))] [.int (z)] by
      refine g_icmpgt (pc := 139) (tgt := 146) (dd d_Mod_two 45 rfl) (by decide) (fun q5 => ?_) (fun q5 => ?_)
      · skip
        refine g_iconst (pc := 146) (v := 0) (dd d_Mod_two 48 rfl) (by decide) ?_
        exact K139 _ (by rw [if_pos q5])
      · skip
        refine g_iconst (pc := 142) (v := 1) (dd d_Mod_two 46 rfl) (by decide) ?_
        refine g_goto (pc := 143) (tgt := 147) (dd d_Mod_two 47 rfl) (by decide) ?_
        exact K139 _ (by rw [if_neg q5])
    intro z hz
    subst hz
    cases h
    exact g_iret (pc := 147) rfl (dd d_Mod_two 49 rfl) hT
  · skip
    replace h := ite_f h (fun e => w1 (38, 87) (by decide) (by rw [e]; rfl))
    replace h := ite_f h (fun e => w1 (43, 95) (by decide) (by rw [e]; rfl))
    replace h := ite_f h (fun e => w1 (45, 99) (by decide) (by rw [e]; rfl))
    replace h := ite_f h (fun e => w1 (60, 125) (by decide) (by rw [e]; rfl))
    replace h := ite_f h (fun e => w1 (94, 91) (by decide) (by rw [e]; rfl))
    replace h := ite_f h (fun e => w1 (124, 83) (by decide) (by rw [e]; rfl))
    replace h := ite_f h (fun e => w1 (202, 103) (by decide) (by rw [e]; rfl))
    replace h := ite_f h (fun e => w1 (203, 114) (by decide) (by rw [e]; rfl))
    replace h := ite_f h (fun e => w1 (204, 136) (by decide) (by rw [e]; rfl))
    refine g_aload_n (pc := 148) (dd d_Mod_two 50 rfl) rfl ?_
    refine g_iload_n (pc := 149) (dd d_Mod_two 51 rfl) rfl ?_
    refine g_iload_n (pc := 150) (dd d_Mod_two 52 rfl) rfl ?_
    obtain ⟨v6, e7, h⟩ := bnd_e h
    refine g_callV (pc := 151) (dd d_Mod_two 53 rfl) v_Mod_517 ob_MO rfl (ef_Mod_pairNumber hX e7) rfl (by rw [hk]; decide) (Nat.le_of_ble_eq_true rfl) ⟨Nat.zero_le _, Nat.zero_le _⟩ rfl ?_
    cases h
    exact g_iret (pc := 154) rfl (dd d_Mod_two 54 rfl) hT
def f_Mod_one (n : Nat) (x1 : Int32) (x2 : Int32) (I : IM) : Option (Int32) := if x1 = 33 then (some (if x2 = 0 then 1 else 0)) else (if x1 = 126 then (some (x2 ^^^ (-1))) else (if x1 = 301 then (some (-(x2))) else (if x1 = 311 then (Option.bind (f_Mod_part  x2 1 I) fun v3 => some (v3)) else (if x1 = 312 then (Option.bind (f_Mod_part  x2 0 I) fun v5 => some (v5)) else (Option.bind (f_Mod_baseOf n x2 I) fun v7 => some (v7))))))
set_option maxRecDepth 20000 in
set_option maxHeartbeats 4000000 in
theorem ef_Mod_one {Δ : Dx} {X : Lx} (hX : MX Δ X) {n : Nat} {x1 : Int32} {x2 : Int32}  {I : IM}  {r : Int32} (h : f_Mod_one n x1 x2 I = some r) : Ev Δ 1 m_Mod_one [.ref (Δ.ba + MO), .int x1, .int x2] (I, X) (some (.int r)) (I, X) := by
  refine ev_of (by decide) (Nat.le_of_ble_eq_true rfl) (fun Γ hk hR hT => ?_)
  change GG Δ m_Mod_one Γ NN 0 0 (I, X) 0 [some (.ref (Δ.ba + MO)), some (.int (x1)), some (.int (x2))] []
  unfold f_Mod_one at h
  refine g_iload_n (pc := 0) (dd d_Mod_one 0 rfl) rfl ?_
  refine g_lookupC (pc := 1) (dd d_Mod_one 1 rfl) (by decide) (List.forall_mem_cons.mpr ⟨fun w1 => ⟨52, by decide, ?_⟩, List.forall_mem_cons.mpr ⟨fun w1 => ⟨62, by decide, ?_⟩, List.forall_mem_cons.mpr ⟨fun w1 => ⟨66, by decide, ?_⟩, List.forall_mem_cons.mpr ⟨fun w1 => ⟨69, by decide, ?_⟩, List.forall_mem_cons.mpr ⟨fun w1 => ⟨76, by decide, ?_⟩, (fun _ h => absurd h List.not_mem_nil)⟩⟩⟩⟩⟩) (fun w1 => ⟨83, by decide, ?_⟩)
  · replace w1 : x1 = 33 := Int32.toInt_inj.mp w1
    replace h := ite_t h w1
    refine g_iload_n (pc := 52) (dd d_Mod_one 2 rfl) rfl ?_
    suffices K53 : ∀ z : Int32, z = (if x2 = 0 then 1 else 0 : Int32) → GG Δ m_Mod_one Γ NN 0 0 (I, X) 61 [some (.ref (Δ.ba + MO)), some (.int (x1)), some (.int (x2))] [.int (z)] by
      refine g_ifne (pc := 53) (tgt := 60) (dd d_Mod_one 3 rfl) (by decide) (fun q2 => ?_) (fun q2 => ?_)
      · skip
        refine g_iconst (pc := 60) (v := 0) (dd d_Mod_one 6 rfl) (by decide) ?_
        exact K53 _ (by rw [if_neg q2])
      · skip
        refine g_iconst (pc := 56) (v := 1) (dd d_Mod_one 4 rfl) (by decide) ?_
        refine g_goto (pc := 57) (tgt := 61) (dd d_Mod_one 5 rfl) (by decide) ?_
        exact K53 _ (by rw [if_pos q2])
    intro z hz
    subst hz
    cases h
    exact g_iret (pc := 61) rfl (dd d_Mod_one 7 rfl) hT
  · replace w1 : x1 = 126 := Int32.toInt_inj.mp w1
    replace h := ite_f h (by rw [w1]; decide)
    replace h := ite_t h w1
    refine g_iload_n (pc := 62) (dd d_Mod_one 8 rfl) rfl ?_
    refine g_iconst (pc := 63) (v := (-1)) (dd d_Mod_one 9 rfl) (by decide) ?_
    refine g_ixor (pc := 64) (dd d_Mod_one 10 rfl) ?_
    cases h
    exact g_iret (pc := 65) rfl (dd d_Mod_one 11 rfl) hT
  · replace w1 : x1 = 301 := Int32.toInt_inj.mp w1
    replace h := ite_f h (by rw [w1]; decide)
    replace h := ite_f h (by rw [w1]; decide)
    replace h := ite_t h w1
    refine g_iload_n (pc := 66) (dd d_Mod_one 12 rfl) rfl ?_
    refine g_ineg (pc := 67) (dd d_Mod_one 13 rfl) ?_
    cases h
    exact g_iret (pc := 68) rfl (dd d_Mod_one 14 rfl) hT
  · replace w1 : x1 = 311 := Int32.toInt_inj.mp w1
    replace h := ite_f h (by rw [w1]; decide)
    replace h := ite_f h (by rw [w1]; decide)
    replace h := ite_f h (by rw [w1]; decide)
    replace h := ite_t h w1
    refine g_aload_n (pc := 69) (dd d_Mod_one 15 rfl) rfl ?_
    refine g_iload_n (pc := 70) (dd d_Mod_one 16 rfl) rfl ?_
    refine g_iconst (pc := 71) (v := 1) (dd d_Mod_one 17 rfl) (by decide) ?_
    obtain ⟨v3, e4, h⟩ := bnd_e h
    refine g_callV (pc := 72) (dd d_Mod_one 18 rfl) v_Mod_520 ob_MO rfl (ef_Mod_part hX e4) rfl (by rw [hk]; decide) (Nat.le_of_ble_eq_true rfl) ⟨Nat.zero_le _, Nat.zero_le _⟩ rfl ?_
    cases h
    exact g_iret (pc := 75) rfl (dd d_Mod_one 19 rfl) hT
  · replace w1 : x1 = 312 := Int32.toInt_inj.mp w1
    replace h := ite_f h (by rw [w1]; decide)
    replace h := ite_f h (by rw [w1]; decide)
    replace h := ite_f h (by rw [w1]; decide)
    replace h := ite_f h (by rw [w1]; decide)
    replace h := ite_t h w1
    refine g_aload_n (pc := 76) (dd d_Mod_one 20 rfl) rfl ?_
    refine g_iload_n (pc := 77) (dd d_Mod_one 21 rfl) rfl ?_
    refine g_iconst (pc := 78) (v := 0) (dd d_Mod_one 22 rfl) (by decide) ?_
    obtain ⟨v5, e6, h⟩ := bnd_e h
    refine g_callV (pc := 79) (dd d_Mod_one 23 rfl) v_Mod_520 ob_MO rfl (ef_Mod_part hX e6) rfl (by rw [hk]; decide) (Nat.le_of_ble_eq_true rfl) ⟨Nat.zero_le _, Nat.zero_le _⟩ rfl ?_
    cases h
    exact g_iret (pc := 82) rfl (dd d_Mod_one 24 rfl) hT
  · skip
    replace h := ite_f h (fun e => w1 (33, 51) (by decide) (by rw [e]; rfl))
    replace h := ite_f h (fun e => w1 (126, 61) (by decide) (by rw [e]; rfl))
    replace h := ite_f h (fun e => w1 (301, 65) (by decide) (by rw [e]; rfl))
    replace h := ite_f h (fun e => w1 (311, 68) (by decide) (by rw [e]; rfl))
    replace h := ite_f h (fun e => w1 (312, 75) (by decide) (by rw [e]; rfl))
    refine g_aload_n (pc := 83) (dd d_Mod_one 25 rfl) rfl ?_
    refine g_iload_n (pc := 84) (dd d_Mod_one 26 rfl) rfl ?_
    obtain ⟨v7, e8, h⟩ := bnd_e h
    refine g_callV (pc := 85) (dd d_Mod_one 27 rfl) v_Mod_524 ob_MO rfl (ef_Mod_baseOf hX e8) rfl (by rw [hk]; decide) (Nat.le_of_ble_eq_true rfl) ⟨Nat.zero_le _, Nat.zero_le _⟩ rfl ?_
    cases h
    exact g_iret (pc := 88) rfl (dd d_Mod_one 28 rfl) hT
def b_Mod_isOne_37 (I : IM)  (y0 : Int32) : Option (Int32) := chk (y0 = 0 ∨ y0 = 1) <| some (y0)
set_option maxRecDepth 20000 in
set_option maxHeartbeats 4000000 in
theorem gb_Mod_isOne_37 {Δ : Dx} {X : Lx} (hX : MX Δ X)   {I : IM} {Γ : Cx} (hk : Γ.k = 1) {r : Int32} (hT : Tg Δ Γ (some (.int r)) NN (I, X) 0 0)  {y0 : Int32} (h : b_Mod_isOne_37 I  y0 = some r) : GG Δ m_Mod_isOne Γ NN 0 0 (I, X) 37 [none] [.int (y0)] := by
  unfold b_Mod_isOne_37 at h
  obtain ⟨c7, h⟩ := chk_e h
  cases h
  exact g_zret (pc := 37) rfl c7 (dd d_Mod_isOne 17 rfl) hT
def b_Mod_isOne_32 (I : IM)   : Option (Int32) := b_Mod_isOne_37 I  1
set_option maxRecDepth 20000 in
set_option maxHeartbeats 4000000 in
theorem gb_Mod_isOne_32 {Δ : Dx} {X : Lx} (hX : MX Δ X)   {I : IM} {Γ : Cx} (hk : Γ.k = 1) {r : Int32} (hT : Tg Δ Γ (some (.int r)) NN (I, X) 0 0)   (h : b_Mod_isOne_32 I   = some r) : GG Δ m_Mod_isOne Γ NN 0 0 (I, X) 32 [none] [] := by
  unfold b_Mod_isOne_32 at h
  refine g_iconst (pc := 32) (v := 1) (dd d_Mod_isOne 14 rfl) (by decide) ?_
  refine g_goto (pc := 33) (tgt := 37) (dd d_Mod_isOne 15 rfl) (by decide) ?_
  exact gb_Mod_isOne_37 hX hk hT  h
def f_Mod_isOne (x0 : Int32) (I : IM) : Option (Int32) := if x0 = (33 : Int32) then (b_Mod_isOne_32 I  ) else (if x0 = (126 : Int32) then (b_Mod_isOne_32 I  ) else (if x0 = (301 : Int32) then (b_Mod_isOne_32 I  ) else (Option.bind (f_Mod_in  x0 311 313 I) fun v4 => some (if v4 = 0 then 0 else 1))))
set_option maxRecDepth 20000 in
set_option maxHeartbeats 4000000 in
theorem ef_Mod_isOne {Δ : Dx} {X : Lx} (hX : MX Δ X) {x0 : Int32}  {I : IM}  {r : Int32} (h : f_Mod_isOne x0 I = some r) : Ev Δ 1 m_Mod_isOne [.int x0] (I, X) (some (.int r)) (I, X) := by
  refine ev_of (by decide) (Nat.le_of_ble_eq_true rfl) (fun Γ hk hR hT => ?_)
  change GG Δ m_Mod_isOne Γ NN 0 0 (I, X) 0 [some (.int (x0))] []
  unfold f_Mod_isOne at h
  refine g_iload_n (pc := 0) (dd d_Mod_isOne 0 rfl) rfl ?_
  refine g_bipush (pc := 1) (v := 33) (dd d_Mod_isOne 1 rfl) (by decide) ?_
  refine g_icmpeq (pc := 3) (tgt := 32) (dd d_Mod_isOne 2 rfl) (by decide) (fun q1 => ?_) (fun q1 => ?_)
  · replace h := ite_t h q1
    refine g_drop [0] ?_
    exact gb_Mod_isOne_32 hX hk hT  h
  · replace h := ite_f h q1
    refine g_iload_n (pc := 6) (dd d_Mod_isOne 3 rfl) rfl ?_
    refine g_bipush (pc := 7) (v := 126) (dd d_Mod_isOne 4 rfl) (by decide) ?_
    refine g_icmpeq (pc := 9) (tgt := 32) (dd d_Mod_isOne 5 rfl) (by decide) (fun q2 => ?_) (fun q2 => ?_)
    · replace h := ite_t h q2
      refine g_drop [0] ?_
      exact gb_Mod_isOne_32 hX hk hT  h
    · replace h := ite_f h q2
      refine g_iload_n (pc := 12) (dd d_Mod_isOne 6 rfl) rfl ?_
      refine g_sipush (pc := 13) (v := 301) (dd d_Mod_isOne 7 rfl) (by decide) ?_
      refine g_icmpeq (pc := 16) (tgt := 32) (dd d_Mod_isOne 8 rfl) (by decide) (fun q3 => ?_) (fun q3 => ?_)
      · replace h := ite_t h q3
        refine g_drop [0] ?_
        exact gb_Mod_isOne_32 hX hk hT  h
      · replace h := ite_f h q3
        refine g_iload_n (pc := 19) (dd d_Mod_isOne 9 rfl) rfl ?_
        refine g_sipush (pc := 20) (v := 311) (dd d_Mod_isOne 10 rfl) (by decide) ?_
        refine g_sipush (pc := 23) (v := 313) (dd d_Mod_isOne 11 rfl) (by decide) ?_
        obtain ⟨v4, e5, h⟩ := bnd_e h
        refine g_callS (pc := 26) (dd d_Mod_isOne 12 rfl) s_Mod_243 (ef_Mod_in hX e5) rfl (by rw [hk]; decide) (Nat.le_of_ble_eq_true rfl) ⟨Nat.zero_le _, Nat.zero_le _⟩ rfl ?_
        suffices K29 : ∀ z : Int32, z = (if v4 = 0 then 0 else 1 : Int32) → GG Δ m_Mod_isOne Γ NN 0 0 (I, X) 37 [some (.int (x0))] [.int (z)] by
          refine g_ifeq (pc := 29) (tgt := 36) (dd d_Mod_isOne 13 rfl) (by decide) (fun q6 => ?_) (fun q6 => ?_)
          · skip
            refine g_iconst (pc := 36) (v := 0) (dd d_Mod_isOne 16 rfl) (by decide) ?_
            exact K29 _ (by rw [if_pos q6])
          · skip
            refine g_iconst (pc := 32) (v := 1) (dd d_Mod_isOne 14 rfl) (by decide) ?_
            refine g_goto (pc := 33) (tgt := 37) (dd d_Mod_isOne 15 rfl) (by decide) ?_
            exact K29 _ (by rw [if_neg q6])
        intro z hz
        subst hz
        cases h
        exact g_zret (pc := 37) rfl (by (repeat' split) <;> first | exact Or.inl rfl | exact Or.inr rfl) (dd d_Mod_isOne 17 rfl) hT
def b_Mod_signed_83 (n : Nat)  (x2 : Int32) (I : IM) : Option (Int32 × IM) := some (x2, I)
set_option maxRecDepth 20000 in
set_option maxHeartbeats 4000000 in
theorem gb_Mod_signed_83 {Δ : Dx} {X : Lx} (hX : MX Δ X)   {n : Nat} {Γ : Cx} (hk : Γ.k = 2) {r : Int32 × IM} (hT : Tg Δ Γ (some (.int r.1)) NN (r.2, X) 0 0)  {x2 : Int32} {I : IM} (h : b_Mod_signed_83 n  x2 I = some r) : GG Δ m_Mod_signed Γ NN 0 0 (I, X) 83 [none, none, some (.int (x2))] [] := by
  unfold b_Mod_signed_83 at h
  refine g_iload_n (pc := 83) (dd d_Mod_signed 49 rfl) rfl ?_
  cases h
  exact g_iret (pc := 84) rfl (dd d_Mod_signed 50 rfl) hT
def f_Mod_signed (n : Nat) (x1 : Int32) (x2 : Int32) (I : IM) : Option (Int32 × IM) := Option.bind (f_Mod_isOne  x1 I) fun v1 => if v1 = 0 then (lt (up I MO 86 ((I MO 86) - 1)) fun I4 => chk (inb ((I4 MO 86) - 1) 1000) <| chk (inb (I4 MO 86) 1000) <| Option.bind (f_Mod_two n x1 (I4 A_stack ((I4 MO 86) - 1 : Int32).toNatClampNeg) (I4 A_stack (I4 MO 86 : Int32).toNatClampNeg) I4) fun v7 => lt (up v7.2 A_stack ((I4 MO 86) - 1 : Int32).toNatClampNeg (v7.1)) fun I9 => b_Mod_signed_83 n  x2 I9) else (chk (inb ((I MO 86) - 1) 1000) <| Option.bind (f_Mod_one n x1 (I A_stack ((I MO 86) - 1 : Int32).toNatClampNeg) I) fun v11 => lt (up I A_stack ((I MO 86) - 1 : Int32).toNatClampNeg (v11)) fun I13 => b_Mod_signed_83 n  x2 I13)
set_option maxRecDepth 20000 in
set_option maxHeartbeats 4000000 in
theorem ef_Mod_signed {Δ : Dx} {X : Lx} (hX : MX Δ X) {n : Nat} {x1 : Int32} {x2 : Int32}  {I : IM}  {r : Int32 × IM} (h : f_Mod_signed n x1 x2 I = some r) : Ev Δ 2 m_Mod_signed [.ref (Δ.ba + MO), .int x1, .int x2] (I, X) (some (.int r.1)) (r.2, X) := by
  refine ev_of (by decide) (Nat.le_of_ble_eq_true rfl) (fun Γ hk hR hT => ?_)
  change GG Δ m_Mod_signed Γ NN 0 0 (I, X) 0 [some (.ref (Δ.ba + MO)), some (.int (x1)), some (.int (x2))] []
  unfold f_Mod_signed at h
  refine g_iload_n (pc := 0) (dd d_Mod_signed 0 rfl) rfl ?_
  obtain ⟨v1, e2, h⟩ := bnd_e h
  refine g_callS (pc := 1) (dd d_Mod_signed 1 rfl) s_Mod_536 (ef_Mod_isOne hX e2) rfl (by rw [hk]; decide) (Nat.le_of_ble_eq_true rfl) ⟨Nat.zero_le _, Nat.zero_le _⟩ rfl ?_
  refine g_ifeq (pc := 4) (tgt := 37) (dd d_Mod_signed 2 rfl) (by decide) (fun q3 => ?_) (fun q3 => ?_)
  · replace h := ite_t h q3
    refine g_aload_n (pc := 37) (dd d_Mod_signed 21 rfl) rfl ?_
    refine g_dup (pc := 38) (dd d_Mod_signed 22 rfl) rfl ?_
    refine g_geti (pc := 39) (dd d_Mod_signed 23 rfl) f_Mod_527 ob_MO rfl ?_
    refine g_iconst (pc := 42) (v := 1) (dd d_Mod_signed 24 rfl) (by decide) ?_
    refine g_isub (pc := 43) (dd d_Mod_signed 25 rfl) ?_
    refine g_putiN (pc := 44) (dd d_Mod_signed 26 rfl) f_Mod_527 fm_Mod_86 ob_MO rfl (fun I4 hI4 => ?_)
    replace h := lt_e h hI4
    refine g_aload_n (pc := 47) (dd d_Mod_signed 27 rfl) rfl ?_
    refine g_getr (pc := 48) (dd d_Mod_signed 28 rfl) f_Mod_129 ob_MO rfl (mr_stack hX) ?_
    refine g_aload_n (pc := 51) (dd d_Mod_signed 29 rfl) rfl ?_
    refine g_geti (pc := 52) (dd d_Mod_signed 30 rfl) f_Mod_527 ob_MO rfl ?_
    refine g_iconst (pc := 55) (v := 1) (dd d_Mod_signed 31 rfl) (by decide) ?_
    refine g_isub (pc := 56) (dd d_Mod_signed 32 rfl) ?_
    refine g_aload_n (pc := 57) (dd d_Mod_signed 33 rfl) rfl ?_
    refine g_iload_n (pc := 58) (dd d_Mod_signed 34 rfl) rfl ?_
    refine g_aload_n (pc := 59) (dd d_Mod_signed 35 rfl) rfl ?_
    refine g_getr (pc := 60) (dd d_Mod_signed 36 rfl) f_Mod_129 ob_MO rfl (mr_stack hX) ?_
    refine g_aload_n (pc := 63) (dd d_Mod_signed 37 rfl) rfl ?_
    refine g_geti (pc := 64) (dd d_Mod_signed 38 rfl) f_Mod_527 ob_MO rfl ?_
    refine g_iconst (pc := 67) (v := 1) (dd d_Mod_signed 39 rfl) (by decide) ?_
    refine g_isub (pc := 68) (dd d_Mod_signed 40 rfl) ?_
    obtain ⟨c5, h⟩ := chk_e h
    refine g_iald (pc := 69) (dd d_Mod_signed 41 rfl) ar_A_stack c5 ?_
    refine g_aload_n (pc := 70) (dd d_Mod_signed 42 rfl) rfl ?_
    refine g_getr (pc := 71) (dd d_Mod_signed 43 rfl) f_Mod_129 ob_MO rfl (mr_stack hX) ?_
    refine g_aload_n (pc := 74) (dd d_Mod_signed 44 rfl) rfl ?_
    refine g_geti (pc := 75) (dd d_Mod_signed 45 rfl) f_Mod_527 ob_MO rfl ?_
    obtain ⟨c6, h⟩ := chk_e h
    refine g_iald (pc := 78) (dd d_Mod_signed 46 rfl) ar_A_stack c6 ?_
    obtain ⟨v7, e8, h⟩ := bnd_e h
    refine g_callV (pc := 79) (dd d_Mod_signed 47 rfl) v_Mod_542 ob_MO rfl (ef_Mod_two hX e8) rfl (by rw [hk]; decide) (Nat.le_of_ble_eq_true rfl) ⟨Nat.zero_le _, Nat.zero_le _⟩ rfl ?_
    refine g_iastN (pc := 82) (dd d_Mod_signed 48 rfl) ar_A_stack c5 (fun I9 hI9 => ?_)
    replace h := lt_e h hI9
    refine g_drop [0, 1] ?_
    exact gb_Mod_signed_83 hX hk hT  h
  · replace h := ite_f h q3
    refine g_aload_n (pc := 7) (dd d_Mod_signed 3 rfl) rfl ?_
    refine g_getr (pc := 8) (dd d_Mod_signed 4 rfl) f_Mod_129 ob_MO rfl (mr_stack hX) ?_
    refine g_aload_n (pc := 11) (dd d_Mod_signed 5 rfl) rfl ?_
    refine g_geti (pc := 12) (dd d_Mod_signed 6 rfl) f_Mod_527 ob_MO rfl ?_
    refine g_iconst (pc := 15) (v := 1) (dd d_Mod_signed 7 rfl) (by decide) ?_
    refine g_isub (pc := 16) (dd d_Mod_signed 8 rfl) ?_
    refine g_aload_n (pc := 17) (dd d_Mod_signed 9 rfl) rfl ?_
    refine g_iload_n (pc := 18) (dd d_Mod_signed 10 rfl) rfl ?_
    refine g_aload_n (pc := 19) (dd d_Mod_signed 11 rfl) rfl ?_
    refine g_getr (pc := 20) (dd d_Mod_signed 12 rfl) f_Mod_129 ob_MO rfl (mr_stack hX) ?_
    refine g_aload_n (pc := 23) (dd d_Mod_signed 13 rfl) rfl ?_
    refine g_geti (pc := 24) (dd d_Mod_signed 14 rfl) f_Mod_527 ob_MO rfl ?_
    refine g_iconst (pc := 27) (v := 1) (dd d_Mod_signed 15 rfl) (by decide) ?_
    refine g_isub (pc := 28) (dd d_Mod_signed 16 rfl) ?_
    obtain ⟨c10, h⟩ := chk_e h
    refine g_iald (pc := 29) (dd d_Mod_signed 17 rfl) ar_A_stack c10 ?_
    obtain ⟨v11, e12, h⟩ := bnd_e h
    refine g_callV (pc := 30) (dd d_Mod_signed 18 rfl) v_Mod_539 ob_MO rfl (ef_Mod_one hX e12) rfl (by rw [hk]; decide) (Nat.le_of_ble_eq_true rfl) ⟨Nat.zero_le _, Nat.zero_le _⟩ rfl ?_
    refine g_iastN (pc := 33) (dd d_Mod_signed 19 rfl) ar_A_stack c10 (fun I13 hI13 => ?_)
    replace h := lt_e h hI13
    refine g_goto (pc := 34) (tgt := 83) (dd d_Mod_signed 20 rfl) (by decide) ?_
    refine g_drop [0, 1] ?_
    exact gb_Mod_signed_83 hX hk hT  h
def b_Mod_work_183 (n : Nat) (H7 : Int32 → Int32 → IM → Option (Int32 × IM)) (x2 : Int32) (x3 : Int32) (I : IM) : Option (Int32 × IM) := H7 x2 x3 I
set_option maxRecDepth 20000 in
set_option maxHeartbeats 4000000 in
theorem gb_Mod_work_183 {Δ : Dx} {X : Lx} (hX : MX Δ X)   {n : Nat} {Γ : Cx} (hk : Γ.k = 3) {r : Int32 × IM} (hT : Tg Δ Γ (some (.int r.1)) NN (r.2, X) 0 0) {H7 : Int32 → Int32 → IM → Option (Int32 × IM)} (hH7 : ∀ (x2 : Int32) (x3 : Int32) (I : IM), H7 x2 x3 I = some r → GG Δ m_Mod_work Γ NN 0 0 (I, X) 7 [some (.ref (Δ.ba + MO)), none, some (.int (x2)), some (.int (x3)), none] []) {x2 : Int32} {x3 : Int32} {I : IM} (h : b_Mod_work_183 n H7 x2 x3 I = some r) : GG Δ m_Mod_work Γ NN 0 0 (I, X) 183 [some (.ref (Δ.ba + MO)), none, some (.int (x2)), some (.int (x3)), none] [] := by
  unfold b_Mod_work_183 at h
  refine g_goto (pc := 183) (tgt := 7) (dd d_Mod_work_1 40 rfl) (by decide) ?_
  exact hH7 _ _ _ h
def b_Mod_work_151 (n : Nat) (H7 : Int32 → Int32 → IM → Option (Int32 × IM)) (x2 : Int32) (y0 : Int32) (I : IM) : Option (Int32 × IM) := b_Mod_work_183 n H7 x2 y0 I
set_option maxRecDepth 20000 in
set_option maxHeartbeats 4000000 in
theorem gb_Mod_work_151 {Δ : Dx} {X : Lx} (hX : MX Δ X)   {n : Nat} {Γ : Cx} (hk : Γ.k = 3) {r : Int32 × IM} (hT : Tg Δ Γ (some (.int r.1)) NN (r.2, X) 0 0) {H7 : Int32 → Int32 → IM → Option (Int32 × IM)} (hH7 : ∀ (x2 : Int32) (x3 : Int32) (I : IM), H7 x2 x3 I = some r → GG Δ m_Mod_work Γ NN 0 0 (I, X) 7 [some (.ref (Δ.ba + MO)), none, some (.int (x2)), some (.int (x3)), none] []) {x2 : Int32} {y0 : Int32} {I : IM} (h : b_Mod_work_151 n H7 x2 y0 I = some r) : GG Δ m_Mod_work Γ NN 0 0 (I, X) 151 [some (.ref (Δ.ba + MO)), none, some (.int (x2)), none, none] [.int (y0)] := by
  unfold b_Mod_work_151 at h
  refine g_istore_n (pc := 151) (dd d_Mod_work_1 22 rfl) (by decide) ?_
  refine g_goto (pc := 152) (tgt := 183) (dd d_Mod_work_1 23 rfl) (by decide) ?_
  exact gb_Mod_work_183 hX hk hT hH7 h
def b_Mod_work_208 (n : Nat)  (y0 : Int32) (I : IM) : Option (Int32 × IM) := some (y0, I)
set_option maxRecDepth 20000 in
set_option maxHeartbeats 4000000 in
theorem gb_Mod_work_208 {Δ : Dx} {X : Lx} (hX : MX Δ X)   {n : Nat} {Γ : Cx} (hk : Γ.k = 3) {r : Int32 × IM} (hT : Tg Δ Γ (some (.int r.1)) NN (r.2, X) 0 0)  {y0 : Int32} {I : IM} (h : b_Mod_work_208 n  y0 I = some r) : GG Δ m_Mod_work Γ NN 0 0 (I, X) 208 [none, none, none, none, none] [.int (y0)] := by
  unfold b_Mod_work_208 at h
  cases h
  exact g_iret (pc := 208) rfl (dd d_Mod_work_1 53 rfl) hT
def b_Mod_work_186 (n : Nat)   (I : IM) : Option (Int32 × IM) := if (I MO 86 : Int32) ≤ 0 then (b_Mod_work_208 n  0 I) else (chk (inb ((I MO 86) - 1) 1000) <| b_Mod_work_208 n  (I A_stack ((I MO 86) - 1 : Int32).toNatClampNeg) I)
set_option maxRecDepth 20000 in
set_option maxHeartbeats 4000000 in
theorem gb_Mod_work_186 {Δ : Dx} {X : Lx} (hX : MX Δ X)   {n : Nat} {Γ : Cx} (hk : Γ.k = 3) {r : Int32 × IM} (hT : Tg Δ Γ (some (.int r.1)) NN (r.2, X) 0 0)   {I : IM} (h : b_Mod_work_186 n   I = some r) : GG Δ m_Mod_work Γ NN 0 0 (I, X) 186 [some (.ref (Δ.ba + MO)), none, none, none, none] [] := by
  unfold b_Mod_work_186 at h
  refine g_aload_n (pc := 186) (dd d_Mod_work_1 41 rfl) rfl ?_
  refine g_geti (pc := 187) (dd d_Mod_work_1 42 rfl) f_Mod_527 ob_MO rfl ?_
  refine g_ifle (pc := 190) (tgt := 207) (dd d_Mod_work_1 43 rfl) (by decide) (fun q25 => ?_) (fun q25 => ?_)
  · replace h := ite_t h q25
    refine g_iconst (pc := 207) (v := 0) (dd d_Mod_work_1 52 rfl) (by decide) ?_
    refine g_drop [0] ?_
    exact gb_Mod_work_208 hX hk hT  h
  · replace h := ite_f h q25
    refine g_aload_n (pc := 193) (dd d_Mod_work_1 44 rfl) rfl ?_
    refine g_getr (pc := 194) (dd d_Mod_work_1 45 rfl) f_Mod_129 ob_MO rfl (mr_stack hX) ?_
    refine g_aload_n (pc := 197) (dd d_Mod_work_1 46 rfl) rfl ?_
    refine g_geti (pc := 198) (dd d_Mod_work_1 47 rfl) f_Mod_527 ob_MO rfl ?_
    refine g_iconst (pc := 201) (v := 1) (dd d_Mod_work_1 48 rfl) (by decide) ?_
    refine g_isub (pc := 202) (dd d_Mod_work_1 49 rfl) ?_
    obtain ⟨c26, h⟩ := chk_e h
    refine g_iald (pc := 203) (dd d_Mod_work_1 50 rfl) ar_A_stack c26 ?_
    refine g_goto (pc := 204) (tgt := 208) (dd d_Mod_work_1 51 rfl) (by decide) ?_
    refine g_drop [0] ?_
    exact gb_Mod_work_208 hX hk hT  h
def l_Mod_work_7 (n : Nat)  : Nat → Int32 → Int32 → IM → Option (Int32 × IM)
  | 0, _, _, _ => none
  | f + 1, x2, x3, I => if x2 ≤ x3 then (b_Mod_work_186 n  I) else (if (I MO 82 : Int32) = (4 : Int32) then (b_Mod_work_186 n  I) else (chk (inb x3 2000) <| if (I A_code0 x3.toNatClampNeg : Int32) = (300 : Int32) then (chk (inb ((x3 + 1) - 1) 2000) <| chk (inb (I MO 86) 1000) <| lt (up I A_stack (I MO 86 : Int32).toNatClampNeg (I A_codeValue ((x3 + 1) - 1 : Int32).toNatClampNeg)) fun I23 => lt (up I23 MO 86 ((I23 MO 86) + 1)) fun I24 => b_Mod_work_183 n (l_Mod_work_7 n  f) x2 (x3 + 1) I24) else (if (I A_code0 x3.toNatClampNeg : Int32) < (500 : Int32) then (if (I A_code0 x3.toNatClampNeg : Int32) = (303 : Int32) then (lt (up I MO 86 ((I MO 86) - 1)) fun I12 => chk (inb (I12 MO 86) 1000) <| if (I12 A_stack (I12 MO 86 : Int32).toNatClampNeg : Int32) = 0 then (chk (inb ((x3 + 1) - 1) 2000) <| b_Mod_work_151 n (l_Mod_work_7 n  f) x2 (I12 A_codeValue ((x3 + 1) - 1 : Int32).toNatClampNeg) I12) else (b_Mod_work_151 n (l_Mod_work_7 n  f) x2 (x3 + 1) I12)) else (if (I A_code0 x3.toNatClampNeg : Int32) = (302 : Int32) then (chk (inb ((x3 + 1) - 1) 2000) <| b_Mod_work_183 n (l_Mod_work_7 n  f) x2 (I A_codeValue ((x3 + 1) - 1 : Int32).toNatClampNeg) I) else (Option.bind (f_Mod_signed n (I A_code0 x3.toNatClampNeg) (x3 + 1) I) fun v9 => b_Mod_work_183 n (l_Mod_work_7 n  f) x2 v9.1 v9.2))) else (Option.bind (f_Mod_nameValue  ((I A_code0 x3.toNatClampNeg) - 500) I) fun v16 => chk (inb (I MO 86) 1000) <| lt (up I A_stack (I MO 86 : Int32).toNatClampNeg (v16)) fun I19 => lt (up I19 MO 86 ((I19 MO 86) + 1)) fun I20 => b_Mod_work_183 n (l_Mod_work_7 n  f) x2 (x3 + 1) I20))))
set_option maxRecDepth 20000 in
set_option maxHeartbeats 4000000 in
theorem gl_Mod_work_7 {Δ : Dx} {X : Lx} (hX : MX Δ X)   {n : Nat} {Γ : Cx} (hk : Γ.k = 3) {r : Int32 × IM} (hT : Tg Δ Γ (some (.int r.1)) NN (r.2, X) 0 0)  : ∀ (f : Nat) (x2 : Int32) (x3 : Int32) (I : IM), l_Mod_work_7 n  f x2 x3 I = some r → GG Δ m_Mod_work Γ NN 0 0 (I, X) 7 [some (.ref (Δ.ba + MO)), none, some (.int (x2)), some (.int (x3)), none] []
  | 0, _, _, _, h => by cases h
  | f + 1, x2, x3, I, h => by
    have ih := gl_Mod_work_7 (n := n) hX hk hT  f
    rw [l_Mod_work_7] at h
    refine g_iload_n (pc := 7) (dd d_Mod_work 5 rfl) rfl ?_
    refine g_iload_n (pc := 8) (dd d_Mod_work 6 rfl) rfl ?_
    refine g_icmpge (pc := 9) (tgt := 186) (dd d_Mod_work 7 rfl) (by decide) (fun q2 => ?_) (fun q2 => ?_)
    · replace h := ite_t h q2
      refine g_drop [2, 3] ?_
      exact gb_Mod_work_186 hX hk hT  h
    · replace h := ite_f h q2
      refine g_aload_n (pc := 12) (dd d_Mod_work 8 rfl) rfl ?_
      refine g_geti (pc := 13) (dd d_Mod_work 9 rfl) f_Mod_514 ob_MO rfl ?_
      refine g_iconst (pc := 16) (v := 4) (dd d_Mod_work 10 rfl) (by decide) ?_
      refine g_icmpeq (pc := 17) (tgt := 186) (dd d_Mod_work 11 rfl) (by decide) (fun q3 => ?_) (fun q3 => ?_)
      · replace h := ite_t h q3
        refine g_drop [2, 3] ?_
        exact gb_Mod_work_186 hX hk hT  h
      · replace h := ite_f h q3
        refine g_aload_n (pc := 20) (dd d_Mod_work 12 rfl) rfl ?_
        refine g_getr (pc := 21) (dd d_Mod_work 13 rfl) f_Mod_20 ob_MO rfl (mr_code0 hX) ?_
        refine g_iload_n (pc := 24) (dd d_Mod_work 14 rfl) rfl ?_
        obtain ⟨c4, h⟩ := chk_e h
        refine g_iald (pc := 25) (dd d_Mod_work 15 rfl) ar_A_code0 c4 ?_
        refine g_istore (pc := 26) (dd d_Mod_work 16 rfl) (by decide) ?_
        refine g_iincW (pc := 28) (w := 1) (dd d_Mod_work 17 rfl) rfl (by decide) (by decide) ?_
        refine g_iload (pc := 31) (dd d_Mod_work 18 rfl) rfl ?_
        refine g_sipush (pc := 33) (v := 300) (dd d_Mod_work 19 rfl) (by decide) ?_
        refine g_icmpne (pc := 36) (tgt := 69) (dd d_Mod_work 20 rfl) (by decide) (fun q5 => ?_) (fun q5 => ?_)
        · replace h := ite_f h q5
          refine g_iload (pc := 69) (dd d_Mod_work 39 rfl) rfl ?_
          refine g_sipush (pc := 71) (v := 500) (dd d_Mod_work 40 rfl) (by decide) ?_
          refine g_icmplt (pc := 74) (tgt := 109) (dd d_Mod_work 41 rfl) (by decide) (fun q6 => ?_) (fun q6 => ?_)
          · replace h := ite_t h q6
            refine g_iload (pc := 109) (dd d_Mod_work 59 rfl) rfl ?_
            refine g_sipush (pc := 111) (v := 303) (dd d_Mod_work_1 0 rfl) (by decide) ?_
            refine g_icmpne (pc := 114) (tgt := 155) (dd d_Mod_work_1 1 rfl) (by decide) (fun q7 => ?_) (fun q7 => ?_)
            · replace h := ite_f h q7
              refine g_iload (pc := 155) (dd d_Mod_work_1 24 rfl) rfl ?_
              refine g_sipush (pc := 157) (v := 302) (dd d_Mod_work_1 25 rfl) (by decide) ?_
              refine g_icmpne (pc := 160) (tgt := 175) (dd d_Mod_work_1 26 rfl) (by decide) (fun q8 => ?_) (fun q8 => ?_)
              · replace h := ite_f h q8
                refine g_aload_n (pc := 175) (dd d_Mod_work_1 35 rfl) rfl ?_
                refine g_iload (pc := 176) (dd d_Mod_work_1 36 rfl) rfl ?_
                refine g_iload_n (pc := 178) (dd d_Mod_work_1 37 rfl) rfl ?_
                obtain ⟨v9, e10, h⟩ := bnd_e h
                refine g_callV (pc := 179) (dd d_Mod_work_1 38 rfl) v_Mod_533 ob_MO rfl (ef_Mod_signed hX e10) rfl (by rw [hk]; decide) (Nat.le_of_ble_eq_true rfl) ⟨Nat.zero_le _, Nat.zero_le _⟩ rfl ?_
                refine g_istore_n (pc := 182) (dd d_Mod_work_1 39 rfl) (by decide) ?_
                refine g_drop [4] ?_
                exact gb_Mod_work_183 hX hk hT ih h
              · replace h := ite_t h q8
                refine g_aload_n (pc := 163) (dd d_Mod_work_1 27 rfl) rfl ?_
                refine g_getr (pc := 164) (dd d_Mod_work_1 28 rfl) f_Mod_23 ob_MO rfl (mr_codeValue hX) ?_
                refine g_iload_n (pc := 167) (dd d_Mod_work_1 29 rfl) rfl ?_
                refine g_iconst (pc := 168) (v := 1) (dd d_Mod_work_1 30 rfl) (by decide) ?_
                refine g_isub (pc := 169) (dd d_Mod_work_1 31 rfl) ?_
                obtain ⟨c11, h⟩ := chk_e h
                refine g_iald (pc := 170) (dd d_Mod_work_1 32 rfl) ar_A_codeValue c11 ?_
                refine g_istore_n (pc := 171) (dd d_Mod_work_1 33 rfl) (by decide) ?_
                refine g_goto (pc := 172) (tgt := 183) (dd d_Mod_work_1 34 rfl) (by decide) ?_
                refine g_drop [4] ?_
                exact gb_Mod_work_183 hX hk hT ih h
            · replace h := ite_t h q7
              refine g_aload_n (pc := 117) (dd d_Mod_work_1 2 rfl) rfl ?_
              refine g_dup (pc := 118) (dd d_Mod_work_1 3 rfl) rfl ?_
              refine g_geti (pc := 119) (dd d_Mod_work_1 4 rfl) f_Mod_527 ob_MO rfl ?_
              refine g_iconst (pc := 122) (v := 1) (dd d_Mod_work_1 5 rfl) (by decide) ?_
              refine g_isub (pc := 123) (dd d_Mod_work_1 6 rfl) ?_
              refine g_putiN (pc := 124) (dd d_Mod_work_1 7 rfl) f_Mod_527 fm_Mod_86 ob_MO rfl (fun I12 hI12 => ?_)
              replace h := lt_e h hI12
              refine g_aload_n (pc := 127) (dd d_Mod_work_1 8 rfl) rfl ?_
              refine g_getr (pc := 128) (dd d_Mod_work_1 9 rfl) f_Mod_129 ob_MO rfl (mr_stack hX) ?_
              refine g_aload_n (pc := 131) (dd d_Mod_work_1 10 rfl) rfl ?_
              refine g_geti (pc := 132) (dd d_Mod_work_1 11 rfl) f_Mod_527 ob_MO rfl ?_
              obtain ⟨c13, h⟩ := chk_e h
              refine g_iald (pc := 135) (dd d_Mod_work_1 12 rfl) ar_A_stack c13 ?_
              refine g_ifne (pc := 136) (tgt := 150) (dd d_Mod_work_1 13 rfl) (by decide) (fun q14 => ?_) (fun q14 => ?_)
              · replace h := ite_f h q14
                refine g_iload_n (pc := 150) (dd d_Mod_work_1 21 rfl) rfl ?_
                refine g_drop [3, 4] ?_
                exact gb_Mod_work_151 hX hk hT ih h
              · replace h := ite_t h q14
                refine g_aload_n (pc := 139) (dd d_Mod_work_1 14 rfl) rfl ?_
                refine g_getr (pc := 140) (dd d_Mod_work_1 15 rfl) f_Mod_23 ob_MO rfl (mr_codeValue hX) ?_
                refine g_iload_n (pc := 143) (dd d_Mod_work_1 16 rfl) rfl ?_
                refine g_iconst (pc := 144) (v := 1) (dd d_Mod_work_1 17 rfl) (by decide) ?_
                refine g_isub (pc := 145) (dd d_Mod_work_1 18 rfl) ?_
                obtain ⟨c15, h⟩ := chk_e h
                refine g_iald (pc := 146) (dd d_Mod_work_1 19 rfl) ar_A_codeValue c15 ?_
                refine g_goto (pc := 147) (tgt := 151) (dd d_Mod_work_1 20 rfl) (by decide) ?_
                refine g_drop [3, 4] ?_
                exact gb_Mod_work_151 hX hk hT ih h
          · replace h := ite_f h q6
            refine g_aload_n (pc := 77) (dd d_Mod_work 42 rfl) rfl ?_
            refine g_getr (pc := 78) (dd d_Mod_work 43 rfl) f_Mod_129 ob_MO rfl (mr_stack hX) ?_
            refine g_aload_n (pc := 81) (dd d_Mod_work 44 rfl) rfl ?_
            refine g_geti (pc := 82) (dd d_Mod_work 45 rfl) f_Mod_527 ob_MO rfl ?_
            refine g_aload_n (pc := 85) (dd d_Mod_work 46 rfl) rfl ?_
            refine g_iload (pc := 86) (dd d_Mod_work 47 rfl) rfl ?_
            refine g_sipush (pc := 88) (v := 500) (dd d_Mod_work 48 rfl) (by decide) ?_
            refine g_isub (pc := 91) (dd d_Mod_work 49 rfl) ?_
            obtain ⟨v16, e17, h⟩ := bnd_e h
            refine g_callV (pc := 92) (dd d_Mod_work 50 rfl) v_Mod_530 ob_MO rfl (ef_Mod_nameValue hX e17) rfl (by rw [hk]; decide) (Nat.le_of_ble_eq_true rfl) ⟨Nat.zero_le _, Nat.zero_le _⟩ rfl ?_
            obtain ⟨c18, h⟩ := chk_e h
            refine g_iastN (pc := 95) (dd d_Mod_work 51 rfl) ar_A_stack c18 (fun I19 hI19 => ?_)
            replace h := lt_e h hI19
            refine g_aload_n (pc := 96) (dd d_Mod_work 52 rfl) rfl ?_
            refine g_dup (pc := 97) (dd d_Mod_work 53 rfl) rfl ?_
            refine g_geti (pc := 98) (dd d_Mod_work 54 rfl) f_Mod_527 ob_MO rfl ?_
            refine g_iconst (pc := 101) (v := 1) (dd d_Mod_work 55 rfl) (by decide) ?_
            refine g_iadd (pc := 102) (dd d_Mod_work 56 rfl) ?_
            refine g_putiN (pc := 103) (dd d_Mod_work 57 rfl) f_Mod_527 fm_Mod_86 ob_MO rfl (fun I20 hI20 => ?_)
            replace h := lt_e h hI20
            refine g_goto (pc := 106) (tgt := 183) (dd d_Mod_work 58 rfl) (by decide) ?_
            refine g_drop [4] ?_
            exact gb_Mod_work_183 hX hk hT ih h
        · replace h := ite_t h q5
          refine g_aload_n (pc := 39) (dd d_Mod_work 21 rfl) rfl ?_
          refine g_getr (pc := 40) (dd d_Mod_work 22 rfl) f_Mod_129 ob_MO rfl (mr_stack hX) ?_
          refine g_aload_n (pc := 43) (dd d_Mod_work 23 rfl) rfl ?_
          refine g_geti (pc := 44) (dd d_Mod_work 24 rfl) f_Mod_527 ob_MO rfl ?_
          refine g_aload_n (pc := 47) (dd d_Mod_work 25 rfl) rfl ?_
          refine g_getr (pc := 48) (dd d_Mod_work 26 rfl) f_Mod_23 ob_MO rfl (mr_codeValue hX) ?_
          refine g_iload_n (pc := 51) (dd d_Mod_work 27 rfl) rfl ?_
          refine g_iconst (pc := 52) (v := 1) (dd d_Mod_work 28 rfl) (by decide) ?_
          refine g_isub (pc := 53) (dd d_Mod_work 29 rfl) ?_
          obtain ⟨c21, h⟩ := chk_e h
          refine g_iald (pc := 54) (dd d_Mod_work 30 rfl) ar_A_codeValue c21 ?_
          obtain ⟨c22, h⟩ := chk_e h
          refine g_iastN (pc := 55) (dd d_Mod_work 31 rfl) ar_A_stack c22 (fun I23 hI23 => ?_)
          replace h := lt_e h hI23
          refine g_aload_n (pc := 56) (dd d_Mod_work 32 rfl) rfl ?_
          refine g_dup (pc := 57) (dd d_Mod_work 33 rfl) rfl ?_
          refine g_geti (pc := 58) (dd d_Mod_work 34 rfl) f_Mod_527 ob_MO rfl ?_
          refine g_iconst (pc := 61) (v := 1) (dd d_Mod_work 35 rfl) (by decide) ?_
          refine g_iadd (pc := 62) (dd d_Mod_work 36 rfl) ?_
          refine g_putiN (pc := 63) (dd d_Mod_work 37 rfl) f_Mod_527 fm_Mod_86 ob_MO rfl (fun I24 hI24 => ?_)
          replace h := lt_e h hI24
          refine g_goto (pc := 66) (tgt := 183) (dd d_Mod_work 38 rfl) (by decide) ?_
          refine g_drop [4] ?_
          exact gb_Mod_work_183 hX hk hT ih h
def f_Mod_work (n : Nat) (x1 : Int32) (x2 : Int32) (I : IM) : Option (Int32 × IM) := lt (up I MO 86 (0)) fun I1 => l_Mod_work_7 n  n x2 x1 I1
set_option maxRecDepth 20000 in
set_option maxHeartbeats 4000000 in
theorem ef_Mod_work {Δ : Dx} {X : Lx} (hX : MX Δ X) {n : Nat} {x1 : Int32} {x2 : Int32}  {I : IM}  {r : Int32 × IM} (h : f_Mod_work n x1 x2 I = some r) : Ev Δ 3 m_Mod_work [.ref (Δ.ba + MO), .int x1, .int x2] (I, X) (some (.int r.1)) (r.2, X) := by
  refine ev_of (by decide) (Nat.le_of_ble_eq_true rfl) (fun Γ hk hR hT => ?_)
  change GG Δ m_Mod_work Γ NN 0 0 (I, X) 0 [some (.ref (Δ.ba + MO)), some (.int (x1)), some (.int (x2)), none, none] []
  unfold f_Mod_work at h
  refine g_aload_n (pc := 0) (dd d_Mod_work 0 rfl) rfl ?_
  refine g_iconst (pc := 1) (v := 0) (dd d_Mod_work 1 rfl) (by decide) ?_
  refine g_putiN (pc := 2) (dd d_Mod_work 2 rfl) f_Mod_527 fm_Mod_86 ob_MO rfl (fun I1 hI1 => ?_)
  replace h := lt_e h hI1
  refine g_iload_n (pc := 5) (dd d_Mod_work 3 rfl) rfl ?_
  refine g_istore_n (pc := 6) (dd d_Mod_work 4 rfl) (by decide) ?_
  refine g_drop [1] ?_
  exact gl_Mod_work_7 hX hk hT  _ _ _ _ h
def b_Mod_rule_227 (n : Nat) (H141 : Int32 → Int32 → IM → Option (IM)) (x1 : Int32) (x2 : Int32) (x3 : Int32) (x4 : Int32) (I : IM) : Option (IM) := lt (up I MO 83 (if x4 = (51 : Int32) then x3 else (I MO 83))) fun I30 => lt (up I30 MO 84 (if x4 = (52 : Int32) then x3 else (I30 MO 84))) fun I32 => lt (up I32 MO 85 (if x4 = (53 : Int32) then x3 else (I32 MO 85))) fun I34 => H141 x1 (x2 + 1) I34
set_option maxRecDepth 20000 in
set_option maxHeartbeats 4000000 in
theorem gb_Mod_rule_227 {Δ : Dx} {X : Lx} (hX : MX Δ X)   {n : Nat} {Γ : Cx} (hk : Γ.k = 4) {r : IM} (hT : Tg Δ Γ none NN (r, X) 0 0) {H141 : Int32 → Int32 → IM → Option (IM)} (hH141 : ∀ (x1 : Int32) (x2 : Int32) (I : IM), H141 x1 x2 I = some r → GG Δ m_Mod_rule Γ NN 0 0 (I, X) 141 [some (.ref (Δ.ba + MO)), some (.int (x1)), some (.int (x2)), none, none] []) {x1 : Int32} {x2 : Int32} {x3 : Int32} {x4 : Int32} {I : IM} (h : b_Mod_rule_227 n H141 x1 x2 x3 x4 I = some r) : GG Δ m_Mod_rule Γ NN 0 0 (I, X) 227 [some (.ref (Δ.ba + MO)), some (.int (x1)), some (.int (x2)), some (.int (x3)), some (.int (x4))] [] := by
  unfold b_Mod_rule_227 at h
  refine g_aload_n (pc := 227) (dd d_Mod_rule_1 57 rfl) rfl ?_
  refine g_iload (pc := 228) (dd d_Mod_rule_1 58 rfl) rfl ?_
  refine g_bipush (pc := 230) (v := 51) (dd d_Mod_rule_1 59 rfl) (by decide) ?_
  suffices K232 : ∀ z : Int32, z = (if x4 = (51 : Int32) then x3 else (I MO 83) : Int32) → GG Δ m_Mod_rule Γ NN 0 0 (I, X) 243 [some (.ref (Δ.ba + MO)), some (.int (x1)), some (.int (x2)), some (.int (x3)), some (.int (x4))] [.int (z), .ref (Δ.ba + MO)] by
    refine g_icmpne (pc := 232) (tgt := 239) (dd d_Mod_rule_2 0 rfl) (by decide) (fun q29 => ?_) (fun q29 => ?_)
    · skip
      refine g_aload_n (pc := 239) (dd d_Mod_rule_2 3 rfl) rfl ?_
      refine g_geti (pc := 240) (dd d_Mod_rule_2 4 rfl) f_Mod_546 ob_MO rfl ?_
      exact K232 _ (by rw [if_neg q29])
    · skip
      refine g_iload_n (pc := 235) (dd d_Mod_rule_2 1 rfl) rfl ?_
      refine g_goto (pc := 236) (tgt := 243) (dd d_Mod_rule_2 2 rfl) (by decide) ?_
      exact K232 _ (by rw [if_pos q29])
  intro z hz
  subst hz
  refine g_putiN (pc := 243) (dd d_Mod_rule_2 5 rfl) f_Mod_546 fm_Mod_83 ob_MO rfl (fun I30 hI30 => ?_)
  replace h := lt_e h hI30
  refine g_aload_n (pc := 246) (dd d_Mod_rule_2 6 rfl) rfl ?_
  refine g_iload (pc := 247) (dd d_Mod_rule_2 7 rfl) rfl ?_
  refine g_bipush (pc := 249) (v := 52) (dd d_Mod_rule_2 8 rfl) (by decide) ?_
  suffices K251 : ∀ z : Int32, z = (if x4 = (52 : Int32) then x3 else (I30 MO 84) : Int32) → GG Δ m_Mod_rule Γ NN 0 0 (I30, X) 262 [some (.ref (Δ.ba + MO)), some (.int (x1)), some (.int (x2)), some (.int (x3)), some (.int (x4))] [.int (z), .ref (Δ.ba + MO)] by
    refine g_icmpne (pc := 251) (tgt := 258) (dd d_Mod_rule_2 9 rfl) (by decide) (fun q31 => ?_) (fun q31 => ?_)
    · skip
      refine g_aload_n (pc := 258) (dd d_Mod_rule_2 12 rfl) rfl ?_
      refine g_geti (pc := 259) (dd d_Mod_rule_2 13 rfl) f_Mod_549 ob_MO rfl ?_
      exact K251 _ (by rw [if_neg q31])
    · skip
      refine g_iload_n (pc := 254) (dd d_Mod_rule_2 10 rfl) rfl ?_
      refine g_goto (pc := 255) (tgt := 262) (dd d_Mod_rule_2 11 rfl) (by decide) ?_
      exact K251 _ (by rw [if_pos q31])
  intro z hz
  subst hz
  refine g_putiN (pc := 262) (dd d_Mod_rule_2 14 rfl) f_Mod_549 fm_Mod_84 ob_MO rfl (fun I32 hI32 => ?_)
  replace h := lt_e h hI32
  refine g_aload_n (pc := 265) (dd d_Mod_rule_2 15 rfl) rfl ?_
  refine g_iload (pc := 266) (dd d_Mod_rule_2 16 rfl) rfl ?_
  refine g_bipush (pc := 268) (v := 53) (dd d_Mod_rule_2 17 rfl) (by decide) ?_
  suffices K270 : ∀ z : Int32, z = (if x4 = (53 : Int32) then x3 else (I32 MO 85) : Int32) → GG Δ m_Mod_rule Γ NN 0 0 (I32, X) 281 [some (.ref (Δ.ba + MO)), some (.int (x1)), some (.int (x2)), some (.int (x3)), some (.int (x4))] [.int (z), .ref (Δ.ba + MO)] by
    refine g_icmpne (pc := 270) (tgt := 277) (dd d_Mod_rule_2 18 rfl) (by decide) (fun q33 => ?_) (fun q33 => ?_)
    · skip
      refine g_aload_n (pc := 277) (dd d_Mod_rule_2 21 rfl) rfl ?_
      refine g_geti (pc := 278) (dd d_Mod_rule_2 22 rfl) f_Mod_552 ob_MO rfl ?_
      exact K270 _ (by rw [if_neg q33])
    · skip
      refine g_iload_n (pc := 273) (dd d_Mod_rule_2 19 rfl) rfl ?_
      refine g_goto (pc := 274) (tgt := 281) (dd d_Mod_rule_2 20 rfl) (by decide) ?_
      exact K270 _ (by rw [if_pos q33])
  intro z hz
  subst hz
  refine g_putiN (pc := 281) (dd d_Mod_rule_2 23 rfl) f_Mod_552 fm_Mod_85 ob_MO rfl (fun I34 hI34 => ?_)
  replace h := lt_e h hI34
  refine g_iincW (pc := 284) (w := 1) (dd d_Mod_rule_2 24 rfl) rfl (by decide) (by decide) ?_
  refine g_goto (pc := 287) (tgt := 141) (dd d_Mod_rule_2 25 rfl) (by decide) ?_
  refine g_drop [3, 4] ?_
  exact hH141 _ _ _ h
def b_Mod_rule_224 (n : Nat) (H141 : Int32 → Int32 → IM → Option (IM)) (x1 : Int32) (x2 : Int32) (x3 : Int32) (x4 : Int32) (y1 : Int32) (I : IM) : Option (IM) := lt (up I MO 68 (y1)) fun I28 => b_Mod_rule_227 n H141 x1 x2 x3 x4 I28
set_option maxRecDepth 20000 in
set_option maxHeartbeats 4000000 in
theorem gb_Mod_rule_224 {Δ : Dx} {X : Lx} (hX : MX Δ X)   {n : Nat} {Γ : Cx} (hk : Γ.k = 4) {r : IM} (hT : Tg Δ Γ none NN (r, X) 0 0) {H141 : Int32 → Int32 → IM → Option (IM)} (hH141 : ∀ (x1 : Int32) (x2 : Int32) (I : IM), H141 x1 x2 I = some r → GG Δ m_Mod_rule Γ NN 0 0 (I, X) 141 [some (.ref (Δ.ba + MO)), some (.int (x1)), some (.int (x2)), none, none] []) {x1 : Int32} {x2 : Int32} {x3 : Int32} {x4 : Int32} {y1 : Int32} {I : IM} (h : b_Mod_rule_224 n H141 x1 x2 x3 x4 y1 I = some r) : GG Δ m_Mod_rule Γ NN 0 0 (I, X) 224 [some (.ref (Δ.ba + MO)), some (.int (x1)), some (.int (x2)), some (.int (x3)), some (.int (x4))] [.int (y1), .ref (Δ.ba + MO)] := by
  unfold b_Mod_rule_224 at h
  refine g_putiN (pc := 224) (dd d_Mod_rule_1 56 rfl) f_Mod_114 fm_Mod_68 ob_MO rfl (fun I28 hI28 => ?_)
  replace h := lt_e h hI28
  exact gb_Mod_rule_227 hX hk hT hH141 h
def b_Mod_rule_290 (n : Nat)   (I : IM) : Option (IM) := some I
set_option maxRecDepth 20000 in
set_option maxHeartbeats 4000000 in
theorem gb_Mod_rule_290 {Δ : Dx} {X : Lx} (hX : MX Δ X)   {n : Nat} {Γ : Cx} (hk : Γ.k = 4) {r : IM} (hT : Tg Δ Γ none NN (r, X) 0 0)   {I : IM} (h : b_Mod_rule_290 n   I = some r) : GG Δ m_Mod_rule Γ NN 0 0 (I, X) 290 [none, none, none, none, none] [] := by
  unfold b_Mod_rule_290 at h
  cases h
  exact g_vret (pc := 290) rfl (dd d_Mod_rule_2 26 rfl) hT
def l_Mod_rule_141 (n : Nat)  : Nat → Int32 → Int32 → IM → Option (IM)
  | 0, _, _, _ => none
  | f + 1, x1, x2, I => chk (inb x1 602) <| if (I A_ruleTo x1.toNatClampNeg : Int32) ≤ x2 then (b_Mod_rule_290 n  I) else (if (I MO 82 : Int32) = 0 then (chk (inb x2 600) <| Option.bind (f_Mod_work n (I A_statementFrom x2.toNatClampNeg) (I A_statementTo x2.toNatClampNeg) I) fun v20 => if (v20.2 MO 82 : Int32) = 0 then (if (v20.2 A_statementKind x2.toNatClampNeg : Int32) = (50 : Int32) then (if (v20.1 : Int32) = 0 then (lt (up v20.2 MO 82 (3)) fun I25 => if (300 : Int32) ≤ x2 then (b_Mod_rule_224 n (l_Mod_rule_141 n  f) x1 x2 v20.1 (v20.2 A_statementKind x2.toNatClampNeg) (-1) I25) else (chk (inb x2 300) <| b_Mod_rule_224 n (l_Mod_rule_141 n  f) x1 x2 v20.1 (v20.2 A_statementKind x2.toNatClampNeg) (I25 A_statementAt x2.toNatClampNeg) I25)) else (b_Mod_rule_227 n (l_Mod_rule_141 n  f) x1 x2 v20.1 (v20.2 A_statementKind x2.toNatClampNeg) v20.2)) else (b_Mod_rule_227 n (l_Mod_rule_141 n  f) x1 x2 v20.1 (v20.2 A_statementKind x2.toNatClampNeg) v20.2)) else (b_Mod_rule_227 n (l_Mod_rule_141 n  f) x1 x2 v20.1 (v20.2 A_statementKind x2.toNatClampNeg) v20.2)) else (b_Mod_rule_290 n  I))
set_option maxRecDepth 20000 in
set_option maxHeartbeats 4000000 in
theorem gl_Mod_rule_141 {Δ : Dx} {X : Lx} (hX : MX Δ X)   {n : Nat} {Γ : Cx} (hk : Γ.k = 4) {r : IM} (hT : Tg Δ Γ none NN (r, X) 0 0)  : ∀ (f : Nat) (x1 : Int32) (x2 : Int32) (I : IM), l_Mod_rule_141 n  f x1 x2 I = some r → GG Δ m_Mod_rule Γ NN 0 0 (I, X) 141 [some (.ref (Δ.ba + MO)), some (.int (x1)), some (.int (x2)), none, none] []
  | 0, _, _, _, h => by cases h
  | f + 1, x1, x2, I, h => by
    have ih := gl_Mod_rule_141 (n := n) hX hk hT  f
    rw [l_Mod_rule_141] at h
    refine g_iload_n (pc := 141) (dd d_Mod_rule_1 10 rfl) rfl ?_
    refine g_aload_n (pc := 142) (dd d_Mod_rule_1 11 rfl) rfl ?_
    refine g_getr (pc := 143) (dd d_Mod_rule_1 12 rfl) f_Mod_41 ob_MO rfl (mr_ruleTo hX) ?_
    refine g_iload_n (pc := 146) (dd d_Mod_rule_1 13 rfl) rfl ?_
    obtain ⟨c16, h⟩ := chk_e h
    refine g_iald (pc := 147) (dd d_Mod_rule_1 14 rfl) ar_A_ruleTo c16 ?_
    refine g_icmpge (pc := 148) (tgt := 290) (dd d_Mod_rule_1 15 rfl) (by decide) (fun q17 => ?_) (fun q17 => ?_)
    · replace h := ite_t h q17
      refine g_drop [0, 1, 2] ?_
      exact gb_Mod_rule_290 hX hk hT  h
    · replace h := ite_f h q17
      refine g_aload_n (pc := 151) (dd d_Mod_rule_1 16 rfl) rfl ?_
      refine g_geti (pc := 152) (dd d_Mod_rule_1 17 rfl) f_Mod_514 ob_MO rfl ?_
      refine g_ifne (pc := 155) (tgt := 290) (dd d_Mod_rule_1 18 rfl) (by decide) (fun q18 => ?_) (fun q18 => ?_)
      · replace h := ite_f h q18
        refine g_drop [0, 1, 2] ?_
        exact gb_Mod_rule_290 hX hk hT  h
      · replace h := ite_t h q18
        refine g_aload_n (pc := 158) (dd d_Mod_rule_1 19 rfl) rfl ?_
        refine g_aload_n (pc := 159) (dd d_Mod_rule_1 20 rfl) rfl ?_
        refine g_getr (pc := 160) (dd d_Mod_rule_1 21 rfl) f_Mod_32 ob_MO rfl (mr_statementFrom hX) ?_
        refine g_iload_n (pc := 163) (dd d_Mod_rule_1 22 rfl) rfl ?_
        obtain ⟨c19, h⟩ := chk_e h
        refine g_iald (pc := 164) (dd d_Mod_rule_1 23 rfl) ar_A_statementFrom c19 ?_
        refine g_aload_n (pc := 165) (dd d_Mod_rule_1 24 rfl) rfl ?_
        refine g_getr (pc := 166) (dd d_Mod_rule_1 25 rfl) f_Mod_35 ob_MO rfl (mr_statementTo hX) ?_
        refine g_iload_n (pc := 169) (dd d_Mod_rule_1 26 rfl) rfl ?_
        refine g_iald (pc := 170) (dd d_Mod_rule_1 27 rfl) ar_A_statementTo c19 ?_
        obtain ⟨v20, e21, h⟩ := bnd_e h
        refine g_callV (pc := 171) (dd d_Mod_rule_1 28 rfl) v_Mod_555 ob_MO rfl (ef_Mod_work hX e21) rfl (by rw [hk]; decide) (Nat.le_of_ble_eq_true rfl) ⟨Nat.zero_le _, Nat.zero_le _⟩ rfl ?_
        refine g_istore_n (pc := 174) (dd d_Mod_rule_1 29 rfl) (by decide) ?_
        refine g_aload_n (pc := 175) (dd d_Mod_rule_1 30 rfl) rfl ?_
        refine g_getr (pc := 176) (dd d_Mod_rule_1 31 rfl) f_Mod_26 ob_MO rfl (mr_statementKind hX) ?_
        refine g_iload_n (pc := 179) (dd d_Mod_rule_1 32 rfl) rfl ?_
        refine g_iald (pc := 180) (dd d_Mod_rule_1 33 rfl) ar_A_statementKind c19 ?_
        refine g_istore (pc := 181) (dd d_Mod_rule_1 34 rfl) (by decide) ?_
        refine g_aload_n (pc := 183) (dd d_Mod_rule_1 35 rfl) rfl ?_
        refine g_geti (pc := 184) (dd d_Mod_rule_1 36 rfl) f_Mod_514 ob_MO rfl ?_
        refine g_ifne (pc := 187) (tgt := 227) (dd d_Mod_rule_1 37 rfl) (by decide) (fun q22 => ?_) (fun q22 => ?_)
        · replace h := ite_f h q22
          exact gb_Mod_rule_227 hX hk hT ih h
        · replace h := ite_t h q22
          refine g_iload (pc := 190) (dd d_Mod_rule_1 38 rfl) rfl ?_
          refine g_bipush (pc := 192) (v := 50) (dd d_Mod_rule_1 39 rfl) (by decide) ?_
          refine g_icmpne (pc := 194) (tgt := 227) (dd d_Mod_rule_1 40 rfl) (by decide) (fun q23 => ?_) (fun q23 => ?_)
          · replace h := ite_f h q23
            exact gb_Mod_rule_227 hX hk hT ih h
          · replace h := ite_t h q23
            refine g_iload_n (pc := 197) (dd d_Mod_rule_1 41 rfl) rfl ?_
            refine g_ifne (pc := 198) (tgt := 227) (dd d_Mod_rule_1 42 rfl) (by decide) (fun q24 => ?_) (fun q24 => ?_)
            · replace h := ite_f h q24
              exact gb_Mod_rule_227 hX hk hT ih h
            · replace h := ite_t h q24
              refine g_aload_n (pc := 201) (dd d_Mod_rule_1 43 rfl) rfl ?_
              refine g_iconst (pc := 202) (v := 3) (dd d_Mod_rule_1 44 rfl) (by decide) ?_
              refine g_putiN (pc := 203) (dd d_Mod_rule_1 45 rfl) f_Mod_514 fm_Mod_82 ob_MO rfl (fun I25 hI25 => ?_)
              replace h := lt_e h hI25
              refine g_aload_n (pc := 206) (dd d_Mod_rule_1 46 rfl) rfl ?_
              refine g_iload_n (pc := 207) (dd d_Mod_rule_1 47 rfl) rfl ?_
              refine g_sipush (pc := 208) (v := 300) (dd d_Mod_rule_1 48 rfl) (by decide) ?_
              refine g_icmpge (pc := 211) (tgt := 223) (dd d_Mod_rule_1 49 rfl) (by decide) (fun q26 => ?_) (fun q26 => ?_)
              · replace h := ite_t h q26
                refine g_iconst (pc := 223) (v := (-1)) (dd d_Mod_rule_1 55 rfl) (by decide) ?_
                exact gb_Mod_rule_224 hX hk hT ih h
              · replace h := ite_f h q26
                refine g_aload_n (pc := 214) (dd d_Mod_rule_1 50 rfl) rfl ?_
                refine g_getr (pc := 215) (dd d_Mod_rule_1 51 rfl) f_Mod_29 ob_MO rfl (mr_statementAt hX) ?_
                refine g_iload_n (pc := 218) (dd d_Mod_rule_1 52 rfl) rfl ?_
                obtain ⟨c27, h⟩ := chk_e h
                refine g_iald (pc := 219) (dd d_Mod_rule_1 53 rfl) ar_A_statementAt c27 ?_
                refine g_goto (pc := 220) (tgt := 224) (dd d_Mod_rule_1 54 rfl) (by decide) ?_
                exact gb_Mod_rule_224 hX hk hT ih h
def b_Mod_rule_131 (n : Nat)  (x1 : Int32) (y1 : Int32) (I : IM) : Option (IM) := lt (up I MO 85 (y1)) fun I14 => chk (inb x1 602) <| l_Mod_rule_141 n  n x1 (I14 A_ruleFrom x1.toNatClampNeg) I14
set_option maxRecDepth 20000 in
set_option maxHeartbeats 4000000 in
theorem gb_Mod_rule_131 {Δ : Dx} {X : Lx} (hX : MX Δ X)   {n : Nat} {Γ : Cx} (hk : Γ.k = 4) {r : IM} (hT : Tg Δ Γ none NN (r, X) 0 0)  {x1 : Int32} {y1 : Int32} {I : IM} (h : b_Mod_rule_131 n  x1 y1 I = some r) : GG Δ m_Mod_rule Γ NN 0 0 (I, X) 131 [some (.ref (Δ.ba + MO)), some (.int (x1)), none, none, none] [.int (y1), .ref (Δ.ba + MO)] := by
  unfold b_Mod_rule_131 at h
  refine g_putiN (pc := 131) (dd d_Mod_rule_1 4 rfl) f_Mod_552 fm_Mod_85 ob_MO rfl (fun I14 hI14 => ?_)
  replace h := lt_e h hI14
  refine g_aload_n (pc := 134) (dd d_Mod_rule_1 5 rfl) rfl ?_
  refine g_getr (pc := 135) (dd d_Mod_rule_1 6 rfl) f_Mod_38 ob_MO rfl (mr_ruleFrom hX) ?_
  refine g_iload_n (pc := 138) (dd d_Mod_rule_1 7 rfl) rfl ?_
  obtain ⟨c15, h⟩ := chk_e h
  refine g_iald (pc := 139) (dd d_Mod_rule_1 8 rfl) ar_A_ruleFrom c15 ?_
  refine g_istore_n (pc := 140) (dd d_Mod_rule_1 9 rfl) (by decide) ?_
  exact gl_Mod_rule_141 hX hk hT  _ _ _ _ h
def b_Mod_rule_98 (n : Nat)  (x1 : Int32) (I : IM) : Option (IM) := b_Mod_rule_131 n  x1 0 I
set_option maxRecDepth 20000 in
set_option maxHeartbeats 4000000 in
theorem gb_Mod_rule_98 {Δ : Dx} {X : Lx} (hX : MX Δ X)   {n : Nat} {Γ : Cx} (hk : Γ.k = 4) {r : IM} (hT : Tg Δ Γ none NN (r, X) 0 0)  {x1 : Int32} {I : IM} (h : b_Mod_rule_98 n  x1 I = some r) : GG Δ m_Mod_rule Γ NN 0 0 (I, X) 98 [some (.ref (Δ.ba + MO)), some (.int (x1)), none, none, none] [.ref (Δ.ba + MO)] := by
  unfold b_Mod_rule_98 at h
  refine g_iconst (pc := 98) (v := 0) (dd d_Mod_rule 48 rfl) (by decide) ?_
  refine g_goto (pc := 99) (tgt := 131) (dd d_Mod_rule 49 rfl) (by decide) ?_
  exact gb_Mod_rule_131 hX hk hT  h
def b_Mod_rule_130 (n : Nat)  (x1 : Int32) (I : IM) : Option (IM) := b_Mod_rule_131 n  x1 0 I
set_option maxRecDepth 20000 in
set_option maxHeartbeats 4000000 in
theorem gb_Mod_rule_130 {Δ : Dx} {X : Lx} (hX : MX Δ X)   {n : Nat} {Γ : Cx} (hk : Γ.k = 4) {r : IM} (hT : Tg Δ Γ none NN (r, X) 0 0)  {x1 : Int32} {I : IM} (h : b_Mod_rule_130 n  x1 I = some r) : GG Δ m_Mod_rule Γ NN 0 0 (I, X) 130 [some (.ref (Δ.ba + MO)), some (.int (x1)), none, none, none] [.ref (Δ.ba + MO)] := by
  unfold b_Mod_rule_130 at h
  refine g_iconst (pc := 130) (v := 0) (dd d_Mod_rule_1 3 rfl) (by decide) ?_
  exact gb_Mod_rule_131 hX hk hT  h
def b_Mod_rule_59 (n : Nat)  (x1 : Int32) (y1 : Int32) (I : IM) : Option (IM) := lt (up I MO 84 (y1)) fun I7 => if (I7 MO 69 : Int32) = 0 then (if (I7 MO 75 : Int32) = (19 : Int32) then (b_Mod_rule_98 n  x1 I7) else (if (I7 MO 75 : Int32) = (20 : Int32) then (b_Mod_rule_98 n  x1 I7) else (if (I7 MO 81 : Int32) = 0 then (b_Mod_rule_130 n  x1 I7) else (if (I7 MO 75 : Int32) = (12 : Int32) then (chk (inb (I7 MO 80) 96) <| b_Mod_rule_131 n  x1 (I7 A_owners (I7 MO 80 : Int32).toNatClampNeg) I7) else (b_Mod_rule_130 n  x1 I7))))) else (b_Mod_rule_131 n  x1 (I7 A_caseValue (8 : Int32).toNatClampNeg) I7)
set_option maxRecDepth 20000 in
set_option maxHeartbeats 4000000 in
theorem gb_Mod_rule_59 {Δ : Dx} {X : Lx} (hX : MX Δ X)   {n : Nat} {Γ : Cx} (hk : Γ.k = 4) {r : IM} (hT : Tg Δ Γ none NN (r, X) 0 0)  {x1 : Int32} {y1 : Int32} {I : IM} (h : b_Mod_rule_59 n  x1 y1 I = some r) : GG Δ m_Mod_rule Γ NN 0 0 (I, X) 59 [some (.ref (Δ.ba + MO)), some (.int (x1)), none, none, none] [.int (y1), .ref (Δ.ba + MO)] := by
  unfold b_Mod_rule_59 at h
  refine g_putiN (pc := 59) (dd d_Mod_rule 30 rfl) f_Mod_549 fm_Mod_84 ob_MO rfl (fun I7 hI7 => ?_)
  replace h := lt_e h hI7
  refine g_aload_n (pc := 62) (dd d_Mod_rule 31 rfl) rfl ?_
  refine g_aload_n (pc := 63) (dd d_Mod_rule 32 rfl) rfl ?_
  refine g_geti (pc := 64) (dd d_Mod_rule 33 rfl) f_Mod_489 ob_MO rfl ?_
  refine g_ifeq (pc := 67) (tgt := 80) (dd d_Mod_rule 34 rfl) (by decide) (fun q8 => ?_) (fun q8 => ?_)
  · replace h := ite_t h q8
    refine g_aload_n (pc := 80) (dd d_Mod_rule 40 rfl) rfl ?_
    refine g_geti (pc := 81) (dd d_Mod_rule 41 rfl) f_Mod_492 ob_MO rfl ?_
    refine g_bipush (pc := 84) (v := 19) (dd d_Mod_rule 42 rfl) (by decide) ?_
    refine g_icmpeq (pc := 86) (tgt := 98) (dd d_Mod_rule 43 rfl) (by decide) (fun q9 => ?_) (fun q9 => ?_)
    · replace h := ite_t h q9
      exact gb_Mod_rule_98 hX hk hT  h
    · replace h := ite_f h q9
      refine g_aload_n (pc := 89) (dd d_Mod_rule 44 rfl) rfl ?_
      refine g_geti (pc := 90) (dd d_Mod_rule 45 rfl) f_Mod_492 ob_MO rfl ?_
      refine g_bipush (pc := 93) (v := 20) (dd d_Mod_rule 46 rfl) (by decide) ?_
      refine g_icmpne (pc := 95) (tgt := 102) (dd d_Mod_rule 47 rfl) (by decide) (fun q10 => ?_) (fun q10 => ?_)
      · replace h := ite_f h q10
        refine g_aload_n (pc := 102) (dd d_Mod_rule 50 rfl) rfl ?_
        refine g_geti (pc := 103) (dd d_Mod_rule 51 rfl) f_Mod_504 ob_MO rfl ?_
        refine g_ifeq (pc := 106) (tgt := 130) (dd d_Mod_rule 52 rfl) (by decide) (fun q11 => ?_) (fun q11 => ?_)
        · replace h := ite_t h q11
          exact gb_Mod_rule_130 hX hk hT  h
        · replace h := ite_f h q11
          refine g_aload_n (pc := 109) (dd d_Mod_rule 53 rfl) rfl ?_
          refine g_geti (pc := 110) (dd d_Mod_rule 54 rfl) f_Mod_492 ob_MO rfl ?_
          refine g_bipush (pc := 113) (v := 12) (dd d_Mod_rule 55 rfl) (by decide) ?_
          refine g_icmpne (pc := 115) (tgt := 130) (dd d_Mod_rule 56 rfl) (by decide) (fun q12 => ?_) (fun q12 => ?_)
          · replace h := ite_f h q12
            exact gb_Mod_rule_130 hX hk hT  h
          · replace h := ite_t h q12
            refine g_aload_n (pc := 118) (dd d_Mod_rule 57 rfl) rfl ?_
            refine g_getr (pc := 119) (dd d_Mod_rule 58 rfl) f_Mod_71 ob_MO rfl (mr_owners hX) ?_
            refine g_aload_n (pc := 122) (dd d_Mod_rule 59 rfl) rfl ?_
            refine g_geti (pc := 123) (dd d_Mod_rule_1 0 rfl) f_Mod_507 ob_MO rfl ?_
            obtain ⟨c13, h⟩ := chk_e h
            refine g_iald (pc := 126) (dd d_Mod_rule_1 1 rfl) ar_A_owners c13 ?_
            refine g_goto (pc := 127) (tgt := 131) (dd d_Mod_rule_1 2 rfl) (by decide) ?_
            exact gb_Mod_rule_131 hX hk hT  h
      · replace h := ite_t h q10
        exact gb_Mod_rule_98 hX hk hT  h
  · replace h := ite_f h q8
    refine g_aload_n (pc := 70) (dd d_Mod_rule 35 rfl) rfl ?_
    refine g_getr (pc := 71) (dd d_Mod_rule 36 rfl) f_Mod_117 ob_MO rfl (mr_caseValue hX) ?_
    refine g_bipush (pc := 74) (v := 8) (dd d_Mod_rule 37 rfl) (by decide) ?_
    refine g_iald (pc := 76) (dd d_Mod_rule 38 rfl) ar_A_caseValue (by rw [vp_in_iff]; decide) ?_
    refine g_goto (pc := 77) (tgt := 131) (dd d_Mod_rule 39 rfl) (by decide) ?_
    exact gb_Mod_rule_131 hX hk hT  h
def b_Mod_rule_35 (n : Nat)  (x1 : Int32) (y1 : Int32) (I : IM) : Option (IM) := lt (up I MO 83 (y1)) fun I5 => if (I5 MO 69 : Int32) = 0 then (b_Mod_rule_59 n  x1 (I5 MO 43) I5) else (b_Mod_rule_59 n  x1 (I5 A_caseValue (0 : Int32).toNatClampNeg) I5)
set_option maxRecDepth 20000 in
set_option maxHeartbeats 4000000 in
theorem gb_Mod_rule_35 {Δ : Dx} {X : Lx} (hX : MX Δ X)   {n : Nat} {Γ : Cx} (hk : Γ.k = 4) {r : IM} (hT : Tg Δ Γ none NN (r, X) 0 0)  {x1 : Int32} {y1 : Int32} {I : IM} (h : b_Mod_rule_35 n  x1 y1 I = some r) : GG Δ m_Mod_rule Γ NN 0 0 (I, X) 35 [some (.ref (Δ.ba + MO)), some (.int (x1)), none, none, none] [.int (y1), .ref (Δ.ba + MO)] := by
  unfold b_Mod_rule_35 at h
  refine g_putiN (pc := 35) (dd d_Mod_rule 18 rfl) f_Mod_546 fm_Mod_83 ob_MO rfl (fun I5 hI5 => ?_)
  replace h := lt_e h hI5
  refine g_aload_n (pc := 38) (dd d_Mod_rule 19 rfl) rfl ?_
  refine g_aload_n (pc := 39) (dd d_Mod_rule 20 rfl) rfl ?_
  refine g_geti (pc := 40) (dd d_Mod_rule 21 rfl) f_Mod_489 ob_MO rfl ?_
  refine g_ifeq (pc := 43) (tgt := 55) (dd d_Mod_rule 22 rfl) (by decide) (fun q6 => ?_) (fun q6 => ?_)
  · replace h := ite_t h q6
    refine g_aload_n (pc := 55) (dd d_Mod_rule 28 rfl) rfl ?_
    refine g_geti (pc := 56) (dd d_Mod_rule 29 rfl) f_Mod_394 ob_MO rfl ?_
    exact gb_Mod_rule_59 hX hk hT  h
  · replace h := ite_f h q6
    refine g_aload_n (pc := 46) (dd d_Mod_rule 23 rfl) rfl ?_
    refine g_getr (pc := 47) (dd d_Mod_rule 24 rfl) f_Mod_117 ob_MO rfl (mr_caseValue hX) ?_
    refine g_iconst (pc := 50) (v := 0) (dd d_Mod_rule 25 rfl) (by decide) ?_
    refine g_iald (pc := 51) (dd d_Mod_rule 26 rfl) ar_A_caseValue (by rw [vp_in_iff]; decide) ?_
    refine g_goto (pc := 52) (tgt := 59) (dd d_Mod_rule 27 rfl) (by decide) ?_
    exact gb_Mod_rule_59 hX hk hT  h
def b_Mod_rule_34 (n : Nat)  (x1 : Int32) (I : IM) : Option (IM) := b_Mod_rule_35 n  x1 0 I
set_option maxRecDepth 20000 in
set_option maxHeartbeats 4000000 in
theorem gb_Mod_rule_34 {Δ : Dx} {X : Lx} (hX : MX Δ X)   {n : Nat} {Γ : Cx} (hk : Γ.k = 4) {r : IM} (hT : Tg Δ Γ none NN (r, X) 0 0)  {x1 : Int32} {I : IM} (h : b_Mod_rule_34 n  x1 I = some r) : GG Δ m_Mod_rule Γ NN 0 0 (I, X) 34 [some (.ref (Δ.ba + MO)), some (.int (x1)), none, none, none] [.ref (Δ.ba + MO)] := by
  unfold b_Mod_rule_34 at h
  refine g_iconst (pc := 34) (v := 0) (dd d_Mod_rule 17 rfl) (by decide) ?_
  exact gb_Mod_rule_35 hX hk hT  h
def f_Mod_rule (n : Nat) (x1 : Int32) (I : IM) : Option (IM) := lt (up I MO 82 (0)) fun I1 => if (I1 MO 69 : Int32) = 0 then (if (I1 MO 75 : Int32) = (21 : Int32) then (chk (inb (I1 MO 76) 8) <| b_Mod_rule_35 n  x1 (I1 A_registerTags (I1 MO 76 : Int32).toNatClampNeg) I1) else (b_Mod_rule_34 n  x1 I1)) else (b_Mod_rule_34 n  x1 I1)
set_option maxRecDepth 20000 in
set_option maxHeartbeats 4000000 in
theorem ef_Mod_rule {Δ : Dx} {X : Lx} (hX : MX Δ X) {n : Nat} {x1 : Int32}  {I : IM}  {r : IM} (h : f_Mod_rule n x1 I = some r) : Ev Δ 4 m_Mod_rule [.ref (Δ.ba + MO), .int x1] (I, X) none (r, X) := by
  refine ev_of (by decide) (Nat.le_of_ble_eq_true rfl) (fun Γ hk hR hT => ?_)
  change GG Δ m_Mod_rule Γ NN 0 0 (I, X) 0 [some (.ref (Δ.ba + MO)), some (.int (x1)), none, none, none] []
  unfold f_Mod_rule at h
  refine g_aload_n (pc := 0) (dd d_Mod_rule 0 rfl) rfl ?_
  refine g_iconst (pc := 1) (v := 0) (dd d_Mod_rule 1 rfl) (by decide) ?_
  refine g_putiN (pc := 2) (dd d_Mod_rule 2 rfl) f_Mod_514 fm_Mod_82 ob_MO rfl (fun I1 hI1 => ?_)
  replace h := lt_e h hI1
  refine g_aload_n (pc := 5) (dd d_Mod_rule 3 rfl) rfl ?_
  refine g_aload_n (pc := 6) (dd d_Mod_rule 4 rfl) rfl ?_
  refine g_geti (pc := 7) (dd d_Mod_rule 5 rfl) f_Mod_489 ob_MO rfl ?_
  refine g_ifne (pc := 10) (tgt := 34) (dd d_Mod_rule 6 rfl) (by decide) (fun q2 => ?_) (fun q2 => ?_)
  · replace h := ite_f h q2
    exact gb_Mod_rule_34 hX hk hT  h
  · replace h := ite_t h q2
    refine g_aload_n (pc := 13) (dd d_Mod_rule 7 rfl) rfl ?_
    refine g_geti (pc := 14) (dd d_Mod_rule 8 rfl) f_Mod_492 ob_MO rfl ?_
    refine g_bipush (pc := 17) (v := 21) (dd d_Mod_rule 9 rfl) (by decide) ?_
    refine g_icmpne (pc := 19) (tgt := 34) (dd d_Mod_rule 10 rfl) (by decide) (fun q3 => ?_) (fun q3 => ?_)
    · replace h := ite_f h q3
      exact gb_Mod_rule_34 hX hk hT  h
    · replace h := ite_t h q3
      refine g_aload_n (pc := 22) (dd d_Mod_rule 11 rfl) rfl ?_
      refine g_getr (pc := 23) (dd d_Mod_rule 12 rfl) f_Mod_77 ob_MO rfl (mr_registerTags hX) ?_
      refine g_aload_n (pc := 26) (dd d_Mod_rule 13 rfl) rfl ?_
      refine g_geti (pc := 27) (dd d_Mod_rule 14 rfl) f_Mod_495 ob_MO rfl ?_
      obtain ⟨c4, h⟩ := chk_e h
      refine g_iald (pc := 30) (dd d_Mod_rule 15 rfl) ar_A_registerTags c4 ?_
      refine g_goto (pc := 31) (tgt := 35) (dd d_Mod_rule 16 rfl) (by decide) ?_
      exact gb_Mod_rule_35 hX hk hT  h
def b_Mod_tells_41 (n : Nat) (I : IM) (H10 : Int32 → Int32 → Int32 → Int32 → Option (Int32)) (x1 : Int32) (x2 : Int32) (x4 : Int32) (y0 : Int32) : Option (Int32) := H10 x1 x2 y0 (x4 + 1)
set_option maxRecDepth 20000 in
set_option maxHeartbeats 4000000 in
theorem gb_Mod_tells_41 {Δ : Dx} {X : Lx} (hX : MX Δ X)   {n : Nat} {I : IM} {Γ : Cx} (hk : Γ.k = 0) {r : Int32} (hT : Tg Δ Γ (some (.int r)) NN (I, X) 0 0) {H10 : Int32 → Int32 → Int32 → Int32 → Option (Int32)} (hH10 : ∀ (x1 : Int32) (x2 : Int32) (x3 : Int32) (x4 : Int32), H10 x1 x2 x3 x4 = some r → GG Δ m_Mod_tells Γ NN 0 0 (I, X) 10 [some (.ref (Δ.ba + MO)), some (.int (x1)), some (.int (x2)), some (.int (x3)), some (.int (x4))] []) {x1 : Int32} {x2 : Int32} {x4 : Int32} {y0 : Int32} (h : b_Mod_tells_41 n I H10 x1 x2 x4 y0 = some r) : GG Δ m_Mod_tells Γ NN 0 0 (I, X) 41 [some (.ref (Δ.ba + MO)), some (.int (x1)), some (.int (x2)), none, some (.int (x4))] [.int (y0)] := by
  unfold b_Mod_tells_41 at h
  refine g_istore_n (pc := 41) (dd d_Mod_tells 24 rfl) (by decide) ?_
  refine g_iincW (pc := 42) (w := 1) (dd d_Mod_tells 25 rfl) rfl (by decide) (by decide) ?_
  refine g_goto (pc := 45) (tgt := 10) (dd d_Mod_tells 26 rfl) (by decide) ?_
  exact hH10 _ _ _ _ h
def b_Mod_tells_36 (n : Nat) (I : IM) (H10 : Int32 → Int32 → Int32 → Int32 → Option (Int32)) (x1 : Int32) (x2 : Int32) (x4 : Int32) : Option (Int32) := b_Mod_tells_41 n I H10 x1 x2 x4 1
set_option maxRecDepth 20000 in
set_option maxHeartbeats 4000000 in
theorem gb_Mod_tells_36 {Δ : Dx} {X : Lx} (hX : MX Δ X)   {n : Nat} {I : IM} {Γ : Cx} (hk : Γ.k = 0) {r : Int32} (hT : Tg Δ Γ (some (.int r)) NN (I, X) 0 0) {H10 : Int32 → Int32 → Int32 → Int32 → Option (Int32)} (hH10 : ∀ (x1 : Int32) (x2 : Int32) (x3 : Int32) (x4 : Int32), H10 x1 x2 x3 x4 = some r → GG Δ m_Mod_tells Γ NN 0 0 (I, X) 10 [some (.ref (Δ.ba + MO)), some (.int (x1)), some (.int (x2)), some (.int (x3)), some (.int (x4))] []) {x1 : Int32} {x2 : Int32} {x4 : Int32} (h : b_Mod_tells_36 n I H10 x1 x2 x4 = some r) : GG Δ m_Mod_tells Γ NN 0 0 (I, X) 36 [some (.ref (Δ.ba + MO)), some (.int (x1)), some (.int (x2)), none, some (.int (x4))] [] := by
  unfold b_Mod_tells_36 at h
  refine g_iconst (pc := 36) (v := 1) (dd d_Mod_tells 21 rfl) (by decide) ?_
  refine g_goto (pc := 37) (tgt := 41) (dd d_Mod_tells 22 rfl) (by decide) ?_
  exact gb_Mod_tells_41 hX hk hT hH10 h
def l_Mod_tells_10 (n : Nat) (I : IM)  : Nat → Int32 → Int32 → Int32 → Int32 → Option (Int32)
  | 0, _, _, _, _ => none
  | f + 1, x1, x2, x3, x4 => chk (inb x1 602) <| if (I A_ruleTo x1.toNatClampNeg : Int32) ≤ x4 then (chk (x3 = 0 ∨ x3 = 1) <| some (x3)) else (if x3 = 0 then (chk (inb x4 600) <| (l_Mod_tells_10 n I  f) x1 x2 (if (I A_statementKind x4.toNatClampNeg : Int32) = x2 then 1 else 0) (x4 + 1)) else (b_Mod_tells_36 n I (l_Mod_tells_10 n I  f) x1 x2 x4))
set_option maxRecDepth 20000 in
set_option maxHeartbeats 4000000 in
theorem gl_Mod_tells_10 {Δ : Dx} {X : Lx} (hX : MX Δ X)   {n : Nat} {I : IM} {Γ : Cx} (hk : Γ.k = 0) {r : Int32} (hT : Tg Δ Γ (some (.int r)) NN (I, X) 0 0)  : ∀ (f : Nat) (x1 : Int32) (x2 : Int32) (x3 : Int32) (x4 : Int32), l_Mod_tells_10 n I  f x1 x2 x3 x4 = some r → GG Δ m_Mod_tells Γ NN 0 0 (I, X) 10 [some (.ref (Δ.ba + MO)), some (.int (x1)), some (.int (x2)), some (.int (x3)), some (.int (x4))] []
  | 0, _, _, _, _, h => by cases h
  | f + 1, x1, x2, x3, x4, h => by
    have ih := gl_Mod_tells_10 (n := n) hX hk hT  f
    rw [l_Mod_tells_10] at h
    refine g_iload (pc := 10) (dd d_Mod_tells 7 rfl) rfl ?_
    refine g_aload_n (pc := 12) (dd d_Mod_tells 8 rfl) rfl ?_
    refine g_getr (pc := 13) (dd d_Mod_tells 9 rfl) f_Mod_41 ob_MO rfl (mr_ruleTo hX) ?_
    refine g_iload_n (pc := 16) (dd d_Mod_tells 10 rfl) rfl ?_
    obtain ⟨c2, h⟩ := chk_e h
    refine g_iald (pc := 17) (dd d_Mod_tells 11 rfl) ar_A_ruleTo c2 ?_
    refine g_icmpge (pc := 18) (tgt := 48) (dd d_Mod_tells 12 rfl) (by decide) (fun q3 => ?_) (fun q3 => ?_)
    · replace h := ite_t h q3
      refine g_iload_n (pc := 48) (dd d_Mod_tells 27 rfl) rfl ?_
      obtain ⟨c4, h⟩ := chk_e h
      cases h
      exact g_zret (pc := 49) rfl c4 (dd d_Mod_tells 28 rfl) hT
    · replace h := ite_f h q3
      refine g_iload_n (pc := 21) (dd d_Mod_tells 13 rfl) rfl ?_
      refine g_ifne (pc := 22) (tgt := 36) (dd d_Mod_tells 14 rfl) (by decide) (fun q5 => ?_) (fun q5 => ?_)
      · replace h := ite_f h q5
        refine g_drop [3] ?_
        exact gb_Mod_tells_36 hX hk hT ih h
      · replace h := ite_t h q5
        refine g_aload_n (pc := 25) (dd d_Mod_tells 15 rfl) rfl ?_
        refine g_getr (pc := 26) (dd d_Mod_tells 16 rfl) f_Mod_26 ob_MO rfl (mr_statementKind hX) ?_
        refine g_iload (pc := 29) (dd d_Mod_tells 17 rfl) rfl ?_
        obtain ⟨c6, h⟩ := chk_e h
        refine g_iald (pc := 31) (dd d_Mod_tells 18 rfl) ar_A_statementKind c6 ?_
        refine g_iload_n (pc := 32) (dd d_Mod_tells 19 rfl) rfl ?_
        suffices K33 : ∀ z : Int32, z = (if (I A_statementKind x4.toNatClampNeg : Int32) = x2 then 1 else 0 : Int32) → GG Δ m_Mod_tells Γ NN 0 0 (I, X) 41 [some (.ref (Δ.ba + MO)), some (.int (x1)), some (.int (x2)), some (.int (x3)), some (.int (x4))] [.int (z)] by
          refine g_icmpne (pc := 33) (tgt := 40) (dd d_Mod_tells 20 rfl) (by decide) (fun q7 => ?_) (fun q7 => ?_)
          · skip
            refine g_iconst (pc := 40) (v := 0) (dd d_Mod_tells 23 rfl) (by decide) ?_
            exact K33 _ (by rw [if_neg q7])
          · skip
            refine g_iconst (pc := 36) (v := 1) (dd d_Mod_tells 21 rfl) (by decide) ?_
            refine g_goto (pc := 37) (tgt := 41) (dd d_Mod_tells 22 rfl) (by decide) ?_
            exact K33 _ (by rw [if_pos q7])
        intro z hz
        subst hz
        refine g_istore_n (pc := 41) (dd d_Mod_tells 24 rfl) (by decide) ?_
        refine g_iincW (pc := 42) (w := 1) (dd d_Mod_tells 25 rfl) rfl (by decide) (by decide) ?_
        refine g_goto (pc := 45) (tgt := 10) (dd d_Mod_tells 26 rfl) (by decide) ?_
        exact ih _ _ _ _ h
def f_Mod_tells (n : Nat) (x1 : Int32) (x2 : Int32) (I : IM) : Option (Int32) := chk (inb x1 602) <| l_Mod_tells_10 n I  n x1 x2 0 (I A_ruleFrom x1.toNatClampNeg)
set_option maxRecDepth 20000 in
set_option maxHeartbeats 4000000 in
theorem ef_Mod_tells {Δ : Dx} {X : Lx} (hX : MX Δ X) {n : Nat} {x1 : Int32} {x2 : Int32}  {I : IM}  {r : Int32} (h : f_Mod_tells n x1 x2 I = some r) : Ev Δ 0 m_Mod_tells [.ref (Δ.ba + MO), .int x1, .int x2] (I, X) (some (.int r)) (I, X) := by
  refine ev_of (by decide) (Nat.le_of_ble_eq_true rfl) (fun Γ hk hR hT => ?_)
  change GG Δ m_Mod_tells Γ NN 0 0 (I, X) 0 [some (.ref (Δ.ba + MO)), some (.int (x1)), some (.int (x2)), none, none] []
  unfold f_Mod_tells at h
  refine g_iconst (pc := 0) (v := 0) (dd d_Mod_tells 0 rfl) (by decide) ?_
  refine g_istore_n (pc := 1) (dd d_Mod_tells 1 rfl) (by decide) ?_
  refine g_aload_n (pc := 2) (dd d_Mod_tells 2 rfl) rfl ?_
  refine g_getr (pc := 3) (dd d_Mod_tells 3 rfl) f_Mod_38 ob_MO rfl (mr_ruleFrom hX) ?_
  refine g_iload_n (pc := 6) (dd d_Mod_tells 4 rfl) rfl ?_
  obtain ⟨c1, h⟩ := chk_e h
  refine g_iald (pc := 7) (dd d_Mod_tells 5 rfl) ar_A_ruleFrom c1 ?_
  refine g_istore (pc := 8) (dd d_Mod_tells 6 rfl) (by decide) ?_
  exact gl_Mod_tells_10 hX hk hT  _ _ _ _ _ h
def b_Mod_ask_81 (n : Nat) (H45 : Int32 → Int32 → IM → Option (IM)) (x1 : Int32) (x2 : Int32) (y2 : Int32) (y1 : Int32) (I : IM) : Option (IM) := chk (inb y1 16) <| lt (up I A_question y1.toNatClampNeg (y2)) fun I18 => H45 x1 (x2 + 1) I18
set_option maxRecDepth 20000 in
set_option maxHeartbeats 4000000 in
theorem gb_Mod_ask_81 {Δ : Dx} {X : Lx} (hX : MX Δ X)   {n : Nat} {Γ : Cx} (hk : Γ.k = 5) {r : IM} (hT : Tg Δ Γ none NN (r, X) 0 0) {H45 : Int32 → Int32 → IM → Option (IM)} (hH45 : ∀ (x1 : Int32) (x2 : Int32) (I : IM), H45 x1 x2 I = some r → GG Δ m_Mod_ask Γ NN 0 0 (I, X) 45 [some (.ref (Δ.ba + MO)), some (.int (x1)), some (.int (x2)), none, none, none] []) {x1 : Int32} {x2 : Int32} {y2 : Int32} {y1 : Int32} {I : IM} (h : b_Mod_ask_81 n H45 x1 x2 y2 y1 I = some r) : GG Δ m_Mod_ask Γ NN 0 0 (I, X) 81 [some (.ref (Δ.ba + MO)), some (.int (x1)), some (.int (x2)), none, none, none] [.int (y2), .int (y1), .ref (Δ.ba + A_question)] := by
  unfold b_Mod_ask_81 at h
  obtain ⟨c17, h⟩ := chk_e h
  refine g_iastN (pc := 81) (dd d_Mod_ask 51 rfl) ar_A_question c17 (fun I18 hI18 => ?_)
  replace h := lt_e h hI18
  refine g_iincW (pc := 82) (w := 1) (dd d_Mod_ask 52 rfl) rfl (by decide) (by decide) ?_
  refine g_goto (pc := 85) (tgt := 45) (dd d_Mod_ask 53 rfl) (by decide) ?_
  exact hH45 _ _ _ h
def b_Mod_ask_177 (n : Nat) (H124 : Int32 → Int32 → Int32 → IM → Option (IM)) (H138 : Int32 → Int32 → Int32 → Int32 → Int32 → IM → Option (IM)) (x1 : Int32) (x2 : Int32) (x3 : Int32) (x5 : Int32) (y0 : Int32) (I : IM) : Option (IM) := H138 x1 x2 x3 y0 (x5 + 1) I
set_option maxRecDepth 20000 in
set_option maxHeartbeats 4000000 in
theorem gb_Mod_ask_177 {Δ : Dx} {X : Lx} (hX : MX Δ X)   {n : Nat} {Γ : Cx} (hk : Γ.k = 5) {r : IM} (hT : Tg Δ Γ none NN (r, X) 0 0) {H124 : Int32 → Int32 → Int32 → IM → Option (IM)} (hH124 : ∀ (x1 : Int32) (x2 : Int32) (x3 : Int32) (I : IM), H124 x1 x2 x3 I = some r → GG Δ m_Mod_ask Γ NN 0 0 (I, X) 124 [some (.ref (Δ.ba + MO)), some (.int (x1)), some (.int (x2)), some (.int (x3)), none, none] []) {H138 : Int32 → Int32 → Int32 → Int32 → Int32 → IM → Option (IM)} (hH138 : ∀ (x1 : Int32) (x2 : Int32) (x3 : Int32) (x4 : Int32) (x5 : Int32) (I : IM), H138 x1 x2 x3 x4 x5 I = some r → GG Δ m_Mod_ask Γ NN 0 0 (I, X) 138 [some (.ref (Δ.ba + MO)), some (.int (x1)), some (.int (x2)), some (.int (x3)), some (.int (x4)), some (.int (x5))] []) {x1 : Int32} {x2 : Int32} {x3 : Int32} {x5 : Int32} {y0 : Int32} {I : IM} (h : b_Mod_ask_177 n H124 H138 x1 x2 x3 x5 y0 I = some r) : GG Δ m_Mod_ask Γ NN 0 0 (I, X) 177 [some (.ref (Δ.ba + MO)), some (.int (x1)), some (.int (x2)), some (.int (x3)), none, some (.int (x5))] [.int (y0)] := by
  unfold b_Mod_ask_177 at h
  refine g_istore (pc := 177) (dd d_Mod_ask_1 49 rfl) (by decide) ?_
  refine g_iincW (pc := 179) (w := 1) (dd d_Mod_ask_1 50 rfl) rfl (by decide) (by decide) ?_
  refine g_goto (pc := 182) (tgt := 138) (dd d_Mod_ask_1 51 rfl) (by decide) ?_
  exact hH138 _ _ _ _ _ _ h
def b_Mod_ask_176 (n : Nat) (H124 : Int32 → Int32 → Int32 → IM → Option (IM)) (H138 : Int32 → Int32 → Int32 → Int32 → Int32 → IM → Option (IM)) (x1 : Int32) (x2 : Int32) (x3 : Int32) (x5 : Int32) (I : IM) : Option (IM) := b_Mod_ask_177 n H124 H138 x1 x2 x3 x5 0 I
set_option maxRecDepth 20000 in
set_option maxHeartbeats 4000000 in
theorem gb_Mod_ask_176 {Δ : Dx} {X : Lx} (hX : MX Δ X)   {n : Nat} {Γ : Cx} (hk : Γ.k = 5) {r : IM} (hT : Tg Δ Γ none NN (r, X) 0 0) {H124 : Int32 → Int32 → Int32 → IM → Option (IM)} (hH124 : ∀ (x1 : Int32) (x2 : Int32) (x3 : Int32) (I : IM), H124 x1 x2 x3 I = some r → GG Δ m_Mod_ask Γ NN 0 0 (I, X) 124 [some (.ref (Δ.ba + MO)), some (.int (x1)), some (.int (x2)), some (.int (x3)), none, none] []) {H138 : Int32 → Int32 → Int32 → Int32 → Int32 → IM → Option (IM)} (hH138 : ∀ (x1 : Int32) (x2 : Int32) (x3 : Int32) (x4 : Int32) (x5 : Int32) (I : IM), H138 x1 x2 x3 x4 x5 I = some r → GG Δ m_Mod_ask Γ NN 0 0 (I, X) 138 [some (.ref (Δ.ba + MO)), some (.int (x1)), some (.int (x2)), some (.int (x3)), some (.int (x4)), some (.int (x5))] []) {x1 : Int32} {x2 : Int32} {x3 : Int32} {x5 : Int32} {I : IM} (h : b_Mod_ask_176 n H124 H138 x1 x2 x3 x5 I = some r) : GG Δ m_Mod_ask Γ NN 0 0 (I, X) 176 [some (.ref (Δ.ba + MO)), some (.int (x1)), some (.int (x2)), some (.int (x3)), none, some (.int (x5))] [] := by
  unfold b_Mod_ask_176 at h
  refine g_iconst (pc := 176) (v := 0) (dd d_Mod_ask_1 48 rfl) (by decide) ?_
  exact gb_Mod_ask_177 hX hk hT hH124 hH138 h
def l_Mod_ask_138 (n : Nat) (H124 : Int32 → Int32 → Int32 → IM → Option (IM)) : Nat → Int32 → Int32 → Int32 → Int32 → Int32 → IM → Option (IM)
  | 0, _, _, _, _, _, _ => none
  | f + 1, x1, x2, x3, x4, x5, I => if (16 : Int32) ≤ x5 then (H124 x1 (if x4 = 0 then x2 else x3) (x3 + 1) I) else (if x4 = 0 then (b_Mod_ask_176 n H124 (l_Mod_ask_138 n H124 f) x1 x2 x3 x5 I) else (chk (inb ((16 * x3) + x5) 128) <| chk (inb x5 16) <| (l_Mod_ask_138 n H124 f) x1 x2 x3 (if (I A_cache ((16 * x3) + x5 : Int32).toNatClampNeg : Int32) = (I A_question x5.toNatClampNeg : Int32) then 1 else 0) (x5 + 1) I))
set_option maxRecDepth 20000 in
set_option maxHeartbeats 4000000 in
theorem gl_Mod_ask_138 {Δ : Dx} {X : Lx} (hX : MX Δ X)   {n : Nat} {Γ : Cx} (hk : Γ.k = 5) {r : IM} (hT : Tg Δ Γ none NN (r, X) 0 0) {H124 : Int32 → Int32 → Int32 → IM → Option (IM)} (hH124 : ∀ (x1 : Int32) (x2 : Int32) (x3 : Int32) (I : IM), H124 x1 x2 x3 I = some r → GG Δ m_Mod_ask Γ NN 0 0 (I, X) 124 [some (.ref (Δ.ba + MO)), some (.int (x1)), some (.int (x2)), some (.int (x3)), none, none] []) : ∀ (f : Nat) (x1 : Int32) (x2 : Int32) (x3 : Int32) (x4 : Int32) (x5 : Int32) (I : IM), l_Mod_ask_138 n H124 f x1 x2 x3 x4 x5 I = some r → GG Δ m_Mod_ask Γ NN 0 0 (I, X) 138 [some (.ref (Δ.ba + MO)), some (.int (x1)), some (.int (x2)), some (.int (x3)), some (.int (x4)), some (.int (x5))] []
  | 0, _, _, _, _, _, _, h => by cases h
  | f + 1, x1, x2, x3, x4, x5, I, h => by
    have ih := gl_Mod_ask_138 (n := n) hX hk hT hH124 f
    rw [l_Mod_ask_138] at h
    refine g_iload (pc := 138) (dd d_Mod_ask_1 28 rfl) rfl ?_
    refine g_bipush (pc := 140) (v := 16) (dd d_Mod_ask_1 29 rfl) (by decide) ?_
    refine g_icmpge (pc := 142) (tgt := 185) (dd d_Mod_ask_1 30 rfl) (by decide) (fun q33 => ?_) (fun q33 => ?_)
    · replace h := ite_t h q33
      refine g_iload (pc := 185) (dd d_Mod_ask_1 52 rfl) rfl ?_
      suffices K187 : ∀ z : Int32, z = (if x4 = 0 then x2 else x3 : Int32) → GG Δ m_Mod_ask Γ NN 0 0 (I, X) 195 [some (.ref (Δ.ba + MO)), some (.int (x1)), some (.int (x2)), some (.int (x3)), some (.int (x4)), some (.int (x5))] [.int (z)] by
        refine g_ifeq (pc := 187) (tgt := 194) (dd d_Mod_ask_1 53 rfl) (by decide) (fun q34 => ?_) (fun q34 => ?_)
        · skip
          refine g_iload_n (pc := 194) (dd d_Mod_ask_1 56 rfl) rfl ?_
          exact K187 _ (by rw [if_pos q34])
        · skip
          refine g_iload_n (pc := 190) (dd d_Mod_ask_1 54 rfl) rfl ?_
          refine g_goto (pc := 191) (tgt := 195) (dd d_Mod_ask_1 55 rfl) (by decide) ?_
          exact K187 _ (by rw [if_neg q34])
      intro z hz
      subst hz
      refine g_istore_n (pc := 195) (dd d_Mod_ask_1 57 rfl) (by decide) ?_
      refine g_iincW (pc := 196) (w := 1) (dd d_Mod_ask_1 58 rfl) rfl (by decide) (by decide) ?_
      refine g_goto (pc := 199) (tgt := 124) (dd d_Mod_ask_1 59 rfl) (by decide) ?_
      refine g_drop [4, 5] ?_
      exact hH124 _ _ _ _ h
    · replace h := ite_f h q33
      refine g_iload (pc := 145) (dd d_Mod_ask_1 31 rfl) rfl ?_
      refine g_ifeq (pc := 147) (tgt := 176) (dd d_Mod_ask_1 32 rfl) (by decide) (fun q35 => ?_) (fun q35 => ?_)
      · replace h := ite_t h q35
        refine g_drop [4] ?_
        exact gb_Mod_ask_176 hX hk hT hH124 ih h
      · replace h := ite_f h q35
        refine g_aload_n (pc := 150) (dd d_Mod_ask_1 33 rfl) rfl ?_
        refine g_getr (pc := 151) (dd d_Mod_ask_1 34 rfl) f_Mod_95 ob_MO rfl (mr_cache hX) ?_
        refine g_bipush (pc := 154) (v := 16) (dd d_Mod_ask_1 35 rfl) (by decide) ?_
        refine g_iload_n (pc := 156) (dd d_Mod_ask_1 36 rfl) rfl ?_
        refine g_imul (pc := 157) (dd d_Mod_ask_1 37 rfl) ?_
        refine g_iload (pc := 158) (dd d_Mod_ask_1 38 rfl) rfl ?_
        refine g_iadd (pc := 160) (dd d_Mod_ask_1 39 rfl) ?_
        obtain ⟨c36, h⟩ := chk_e h
        refine g_iald (pc := 161) (dd d_Mod_ask_1 40 rfl) ar_A_cache c36 ?_
        refine g_aload_n (pc := 162) (dd d_Mod_ask_1 41 rfl) rfl ?_
        refine g_getr (pc := 163) (dd d_Mod_ask_1 42 rfl) f_Mod_101 ob_MO rfl (mr_question hX) ?_
        refine g_iload (pc := 166) (dd d_Mod_ask_1 43 rfl) rfl ?_
        obtain ⟨c37, h⟩ := chk_e h
        refine g_iald (pc := 168) (dd d_Mod_ask_1 44 rfl) ar_A_question c37 ?_
        suffices K169 : ∀ z : Int32, z = (if (I A_cache ((16 * x3) + x5 : Int32).toNatClampNeg : Int32) = (I A_question x5.toNatClampNeg : Int32) then 1 else 0 : Int32) → GG Δ m_Mod_ask Γ NN 0 0 (I, X) 177 [some (.ref (Δ.ba + MO)), some (.int (x1)), some (.int (x2)), some (.int (x3)), some (.int (x4)), some (.int (x5))] [.int (z)] by
          refine g_icmpne (pc := 169) (tgt := 176) (dd d_Mod_ask_1 45 rfl) (by decide) (fun q38 => ?_) (fun q38 => ?_)
          · skip
            refine g_iconst (pc := 176) (v := 0) (dd d_Mod_ask_1 48 rfl) (by decide) ?_
            exact K169 _ (by rw [if_neg q38])
          · skip
            refine g_iconst (pc := 172) (v := 1) (dd d_Mod_ask_1 46 rfl) (by decide) ?_
            refine g_goto (pc := 173) (tgt := 177) (dd d_Mod_ask_1 47 rfl) (by decide) ?_
            exact K169 _ (by rw [if_pos q38])
        intro z hz
        subst hz
        refine g_istore (pc := 177) (dd d_Mod_ask_1 49 rfl) (by decide) ?_
        refine g_iincW (pc := 179) (w := 1) (dd d_Mod_ask_1 50 rfl) rfl (by decide) (by decide) ?_
        refine g_goto (pc := 182) (tgt := 138) (dd d_Mod_ask_1 51 rfl) (by decide) ?_
        exact ih _ _ _ _ _ _ h
def b_Mod_ask_345 (n : Nat)  (x2 : Int32) (y1 : Int32) (I : IM) : Option (IM) := lt (up I MO 85 (y1)) fun I49 => chk (inb ((5 * x2) + 4) 40) <| lt (up I49 MO 68 (I49 A_answers ((5 * x2) + 4 : Int32).toNatClampNeg)) fun I51 => some I51
set_option maxRecDepth 20000 in
set_option maxHeartbeats 4000000 in
theorem gb_Mod_ask_345 {Δ : Dx} {X : Lx} (hX : MX Δ X)   {n : Nat} {Γ : Cx} (hk : Γ.k = 5) {r : IM} (hT : Tg Δ Γ none NN (r, X) 0 0)  {x2 : Int32} {y1 : Int32} {I : IM} (h : b_Mod_ask_345 n  x2 y1 I = some r) : GG Δ m_Mod_ask Γ NN 0 0 (I, X) 345 [some (.ref (Δ.ba + MO)), none, some (.int (x2)), none, none, none] [.int (y1), .ref (Δ.ba + MO)] := by
  unfold b_Mod_ask_345 at h
  refine g_putiN (pc := 345) (dd d_Mod_ask_3 28 rfl) f_Mod_552 fm_Mod_85 ob_MO rfl (fun I49 hI49 => ?_)
  replace h := lt_e h hI49
  refine g_aload_n (pc := 348) (dd d_Mod_ask_3 29 rfl) rfl ?_
  refine g_aload_n (pc := 349) (dd d_Mod_ask_3 30 rfl) rfl ?_
  refine g_getr (pc := 350) (dd d_Mod_ask_3 31 rfl) f_Mod_98 ob_MO rfl (mr_answers hX) ?_
  refine g_iconst (pc := 353) (v := 5) (dd d_Mod_ask_3 32 rfl) (by decide) ?_
  refine g_iload_n (pc := 354) (dd d_Mod_ask_3 33 rfl) rfl ?_
  refine g_imul (pc := 355) (dd d_Mod_ask_3 34 rfl) ?_
  refine g_iconst (pc := 356) (v := 4) (dd d_Mod_ask_3 35 rfl) (by decide) ?_
  refine g_iadd (pc := 357) (dd d_Mod_ask_3 36 rfl) ?_
  obtain ⟨c50, h⟩ := chk_e h
  refine g_iald (pc := 358) (dd d_Mod_ask_3 37 rfl) ar_A_answers c50 ?_
  refine g_putiN (pc := 359) (dd d_Mod_ask_3 38 rfl) f_Mod_114 fm_Mod_68 ob_MO rfl (fun I51 hI51 => ?_)
  replace h := lt_e h hI51
  cases h
  exact g_vret (pc := 362) rfl (dd d_Mod_ask_3 39 rfl) hT
def b_Mod_ask_314 (n : Nat)  (x1 : Int32) (x2 : Int32) (y1 : Int32) (I : IM) : Option (IM) := lt (up I MO 84 (y1)) fun I44 => Option.bind (f_Mod_tells n x1 53 I44) fun v45 => if v45 = 0 then (b_Mod_ask_345 n  x2 (I44 MO 85) I44) else (chk (inb ((5 * x2) + 3) 40) <| b_Mod_ask_345 n  x2 (I44 A_answers ((5 * x2) + 3 : Int32).toNatClampNeg) I44)
set_option maxRecDepth 20000 in
set_option maxHeartbeats 4000000 in
theorem gb_Mod_ask_314 {Δ : Dx} {X : Lx} (hX : MX Δ X)   {n : Nat} {Γ : Cx} (hk : Γ.k = 5) {r : IM} (hT : Tg Δ Γ none NN (r, X) 0 0)  {x1 : Int32} {x2 : Int32} {y1 : Int32} {I : IM} (h : b_Mod_ask_314 n  x1 x2 y1 I = some r) : GG Δ m_Mod_ask Γ NN 0 0 (I, X) 314 [some (.ref (Δ.ba + MO)), some (.int (x1)), some (.int (x2)), none, none, none] [.int (y1), .ref (Δ.ba + MO)] := by
  unfold b_Mod_ask_314 at h
  refine g_putiN (pc := 314) (dd d_Mod_ask_3 10 rfl) f_Mod_549 fm_Mod_84 ob_MO rfl (fun I44 hI44 => ?_)
  replace h := lt_e h hI44
  refine g_aload_n (pc := 317) (dd d_Mod_ask_3 11 rfl) rfl ?_
  refine g_aload_n (pc := 318) (dd d_Mod_ask_3 12 rfl) rfl ?_
  refine g_iload_n (pc := 319) (dd d_Mod_ask_3 13 rfl) rfl ?_
  refine g_bipush (pc := 320) (v := 53) (dd d_Mod_ask_3 14 rfl) (by decide) ?_
  obtain ⟨v45, e46, h⟩ := bnd_e h
  refine g_callV (pc := 322) (dd d_Mod_ask_3 15 rfl) v_Mod_564 ob_MO rfl (ef_Mod_tells hX e46) rfl (by rw [hk]; decide) (Nat.le_of_ble_eq_true rfl) ⟨Nat.zero_le _, Nat.zero_le _⟩ rfl ?_
  refine g_ifeq (pc := 325) (tgt := 341) (dd d_Mod_ask_3 16 rfl) (by decide) (fun q47 => ?_) (fun q47 => ?_)
  · replace h := ite_t h q47
    refine g_aload_n (pc := 341) (dd d_Mod_ask_3 26 rfl) rfl ?_
    refine g_geti (pc := 342) (dd d_Mod_ask_3 27 rfl) f_Mod_552 ob_MO rfl ?_
    refine g_drop [1] ?_
    exact gb_Mod_ask_345 hX hk hT  h
  · replace h := ite_f h q47
    refine g_aload_n (pc := 328) (dd d_Mod_ask_3 17 rfl) rfl ?_
    refine g_getr (pc := 329) (dd d_Mod_ask_3 18 rfl) f_Mod_98 ob_MO rfl (mr_answers hX) ?_
    refine g_iconst (pc := 332) (v := 5) (dd d_Mod_ask_3 19 rfl) (by decide) ?_
    refine g_iload_n (pc := 333) (dd d_Mod_ask_3 20 rfl) rfl ?_
    refine g_imul (pc := 334) (dd d_Mod_ask_3 21 rfl) ?_
    refine g_iconst (pc := 335) (v := 3) (dd d_Mod_ask_3 22 rfl) (by decide) ?_
    refine g_iadd (pc := 336) (dd d_Mod_ask_3 23 rfl) ?_
    obtain ⟨c48, h⟩ := chk_e h
    refine g_iald (pc := 337) (dd d_Mod_ask_3 24 rfl) ar_A_answers c48 ?_
    refine g_goto (pc := 338) (tgt := 345) (dd d_Mod_ask_3 25 rfl) (by decide) ?_
    refine g_drop [1] ?_
    exact gb_Mod_ask_345 hX hk hT  h
def b_Mod_ask_283 (n : Nat)  (x1 : Int32) (x2 : Int32) (y1 : Int32) (I : IM) : Option (IM) := lt (up I MO 83 (y1)) fun I39 => Option.bind (f_Mod_tells n x1 52 I39) fun v40 => if v40 = 0 then (b_Mod_ask_314 n  x1 x2 (I39 MO 84) I39) else (chk (inb ((5 * x2) + 2) 40) <| b_Mod_ask_314 n  x1 x2 (I39 A_answers ((5 * x2) + 2 : Int32).toNatClampNeg) I39)
set_option maxRecDepth 20000 in
set_option maxHeartbeats 4000000 in
theorem gb_Mod_ask_283 {Δ : Dx} {X : Lx} (hX : MX Δ X)   {n : Nat} {Γ : Cx} (hk : Γ.k = 5) {r : IM} (hT : Tg Δ Γ none NN (r, X) 0 0)  {x1 : Int32} {x2 : Int32} {y1 : Int32} {I : IM} (h : b_Mod_ask_283 n  x1 x2 y1 I = some r) : GG Δ m_Mod_ask Γ NN 0 0 (I, X) 283 [some (.ref (Δ.ba + MO)), some (.int (x1)), some (.int (x2)), none, none, none] [.int (y1), .ref (Δ.ba + MO)] := by
  unfold b_Mod_ask_283 at h
  refine g_putiN (pc := 283) (dd d_Mod_ask_2 52 rfl) f_Mod_546 fm_Mod_83 ob_MO rfl (fun I39 hI39 => ?_)
  replace h := lt_e h hI39
  refine g_aload_n (pc := 286) (dd d_Mod_ask_2 53 rfl) rfl ?_
  refine g_aload_n (pc := 287) (dd d_Mod_ask_2 54 rfl) rfl ?_
  refine g_iload_n (pc := 288) (dd d_Mod_ask_2 55 rfl) rfl ?_
  refine g_bipush (pc := 289) (v := 52) (dd d_Mod_ask_2 56 rfl) (by decide) ?_
  obtain ⟨v40, e41, h⟩ := bnd_e h
  refine g_callV (pc := 291) (dd d_Mod_ask_2 57 rfl) v_Mod_564 ob_MO rfl (ef_Mod_tells hX e41) rfl (by rw [hk]; decide) (Nat.le_of_ble_eq_true rfl) ⟨Nat.zero_le _, Nat.zero_le _⟩ rfl ?_
  refine g_ifeq (pc := 294) (tgt := 310) (dd d_Mod_ask_2 58 rfl) (by decide) (fun q42 => ?_) (fun q42 => ?_)
  · replace h := ite_t h q42
    refine g_aload_n (pc := 310) (dd d_Mod_ask_3 8 rfl) rfl ?_
    refine g_geti (pc := 311) (dd d_Mod_ask_3 9 rfl) f_Mod_549 ob_MO rfl ?_
    exact gb_Mod_ask_314 hX hk hT  h
  · replace h := ite_f h q42
    refine g_aload_n (pc := 297) (dd d_Mod_ask_2 59 rfl) rfl ?_
    refine g_getr (pc := 298) (dd d_Mod_ask_3 0 rfl) f_Mod_98 ob_MO rfl (mr_answers hX) ?_
    refine g_iconst (pc := 301) (v := 5) (dd d_Mod_ask_3 1 rfl) (by decide) ?_
    refine g_iload_n (pc := 302) (dd d_Mod_ask_3 2 rfl) rfl ?_
    refine g_imul (pc := 303) (dd d_Mod_ask_3 3 rfl) ?_
    refine g_iconst (pc := 304) (v := 2) (dd d_Mod_ask_3 4 rfl) (by decide) ?_
    refine g_iadd (pc := 305) (dd d_Mod_ask_3 5 rfl) ?_
    obtain ⟨c43, h⟩ := chk_e h
    refine g_iald (pc := 306) (dd d_Mod_ask_3 6 rfl) ar_A_answers c43 ?_
    refine g_goto (pc := 307) (tgt := 314) (dd d_Mod_ask_3 7 rfl) (by decide) ?_
    exact gb_Mod_ask_314 hX hk hT  h
def l_Mod_ask_365 (n : Nat)  : Nat → Int32 → IM → Option (IM)
  | 0, _, _ => none
  | f + 1, x3, I => if (16 : Int32) ≤ x3 then (chk (inb (5 * (I MO 59)) 40) <| lt (up I A_answers (5 * (I MO 59) : Int32).toNatClampNeg (I MO 82)) fun I54 => chk (inb ((5 * (I54 MO 59)) + 1) 40) <| lt (up I54 A_answers ((5 * (I54 MO 59)) + 1 : Int32).toNatClampNeg (I54 MO 83)) fun I56 => chk (inb ((5 * (I56 MO 59)) + 2) 40) <| lt (up I56 A_answers ((5 * (I56 MO 59)) + 2 : Int32).toNatClampNeg (I56 MO 84)) fun I58 => chk (inb ((5 * (I58 MO 59)) + 3) 40) <| lt (up I58 A_answers ((5 * (I58 MO 59)) + 3 : Int32).toNatClampNeg (I58 MO 85)) fun I60 => chk (inb ((5 * (I60 MO 59)) + 4) 40) <| lt (up I60 A_answers ((5 * (I60 MO 59)) + 4 : Int32).toNatClampNeg (I60 MO 68)) fun I62 => lt (up I62 MO 59 (((I62 MO 59) + 1) - ((I62 MO 59) + 1) / (8) * (8))) fun I63 => lt (up I63 MO 58 (if (8 : Int32) ≤ (I63 MO 58 : Int32) then 8 else ((I63 MO 58) + (1)))) fun I65 => some I65) else (chk (inb x3 16) <| chk (inb ((16 * (I MO 59)) + x3) 128) <| lt (up I A_cache ((16 * (I MO 59)) + x3 : Int32).toNatClampNeg (I A_question x3.toNatClampNeg)) fun I68 => (l_Mod_ask_365 n  f) (x3 + 1) I68)
set_option maxRecDepth 20000 in
set_option maxHeartbeats 4000000 in
theorem gl_Mod_ask_365 {Δ : Dx} {X : Lx} (hX : MX Δ X)   {n : Nat} {Γ : Cx} (hk : Γ.k = 5) {r : IM} (hT : Tg Δ Γ none NN (r, X) 0 0)  : ∀ (f : Nat) (x3 : Int32) (I : IM), l_Mod_ask_365 n  f x3 I = some r → GG Δ m_Mod_ask Γ NN 0 0 (I, X) 365 [some (.ref (Δ.ba + MO)), none, none, some (.int (x3)), none, none] []
  | 0, _, _, h => by cases h
  | f + 1, x3, I, h => by
    have ih := gl_Mod_ask_365 (n := n) hX hk hT  f
    rw [l_Mod_ask_365] at h
    refine g_iload_n (pc := 365) (dd d_Mod_ask_3 42 rfl) rfl ?_
    refine g_bipush (pc := 366) (v := 16) (dd d_Mod_ask_3 43 rfl) (by decide) ?_
    refine g_icmpge (pc := 368) (tgt := 397) (dd d_Mod_ask_3 44 rfl) (by decide) (fun q52 => ?_) (fun q52 => ?_)
    · replace h := ite_t h q52
      refine g_aload_n (pc := 397) (dd d_Mod_ask_4 0 rfl) rfl ?_
      refine g_getr (pc := 398) (dd d_Mod_ask_4 1 rfl) f_Mod_98 ob_MO rfl (mr_answers hX) ?_
      refine g_iconst (pc := 401) (v := 5) (dd d_Mod_ask_4 2 rfl) (by decide) ?_
      refine g_aload_n (pc := 402) (dd d_Mod_ask_4 3 rfl) rfl ?_
      refine g_geti (pc := 403) (dd d_Mod_ask_4 4 rfl) f_Mod_379 ob_MO rfl ?_
      refine g_imul (pc := 406) (dd d_Mod_ask_4 5 rfl) ?_
      refine g_aload_n (pc := 407) (dd d_Mod_ask_4 6 rfl) rfl ?_
      refine g_geti (pc := 408) (dd d_Mod_ask_4 7 rfl) f_Mod_514 ob_MO rfl ?_
      obtain ⟨c53, h⟩ := chk_e h
      refine g_iastN (pc := 411) (dd d_Mod_ask_4 8 rfl) ar_A_answers c53 (fun I54 hI54 => ?_)
      replace h := lt_e h hI54
      refine g_aload_n (pc := 412) (dd d_Mod_ask_4 9 rfl) rfl ?_
      refine g_getr (pc := 413) (dd d_Mod_ask_4 10 rfl) f_Mod_98 ob_MO rfl (mr_answers hX) ?_
      refine g_iconst (pc := 416) (v := 5) (dd d_Mod_ask_4 11 rfl) (by decide) ?_
      refine g_aload_n (pc := 417) (dd d_Mod_ask_4 12 rfl) rfl ?_
      refine g_geti (pc := 418) (dd d_Mod_ask_4 13 rfl) f_Mod_379 ob_MO rfl ?_
      refine g_imul (pc := 421) (dd d_Mod_ask_4 14 rfl) ?_
      refine g_iconst (pc := 422) (v := 1) (dd d_Mod_ask_4 15 rfl) (by decide) ?_
      refine g_iadd (pc := 423) (dd d_Mod_ask_4 16 rfl) ?_
      refine g_aload_n (pc := 424) (dd d_Mod_ask_4 17 rfl) rfl ?_
      refine g_geti (pc := 425) (dd d_Mod_ask_4 18 rfl) f_Mod_546 ob_MO rfl ?_
      obtain ⟨c55, h⟩ := chk_e h
      refine g_iastN (pc := 428) (dd d_Mod_ask_4 19 rfl) ar_A_answers c55 (fun I56 hI56 => ?_)
      replace h := lt_e h hI56
      refine g_aload_n (pc := 429) (dd d_Mod_ask_4 20 rfl) rfl ?_
      refine g_getr (pc := 430) (dd d_Mod_ask_4 21 rfl) f_Mod_98 ob_MO rfl (mr_answers hX) ?_
      refine g_iconst (pc := 433) (v := 5) (dd d_Mod_ask_4 22 rfl) (by decide) ?_
      refine g_aload_n (pc := 434) (dd d_Mod_ask_4 23 rfl) rfl ?_
      refine g_geti (pc := 435) (dd d_Mod_ask_4 24 rfl) f_Mod_379 ob_MO rfl ?_
      refine g_imul (pc := 438) (dd d_Mod_ask_4 25 rfl) ?_
      refine g_iconst (pc := 439) (v := 2) (dd d_Mod_ask_4 26 rfl) (by decide) ?_
      refine g_iadd (pc := 440) (dd d_Mod_ask_4 27 rfl) ?_
      refine g_aload_n (pc := 441) (dd d_Mod_ask_4 28 rfl) rfl ?_
      refine g_geti (pc := 442) (dd d_Mod_ask_4 29 rfl) f_Mod_549 ob_MO rfl ?_
      obtain ⟨c57, h⟩ := chk_e h
      refine g_iastN (pc := 445) (dd d_Mod_ask_4 30 rfl) ar_A_answers c57 (fun I58 hI58 => ?_)
      replace h := lt_e h hI58
      refine g_aload_n (pc := 446) (dd d_Mod_ask_4 31 rfl) rfl ?_
      refine g_getr (pc := 447) (dd d_Mod_ask_4 32 rfl) f_Mod_98 ob_MO rfl (mr_answers hX) ?_
      refine g_iconst (pc := 450) (v := 5) (dd d_Mod_ask_4 33 rfl) (by decide) ?_
      refine g_aload_n (pc := 451) (dd d_Mod_ask_4 34 rfl) rfl ?_
      refine g_geti (pc := 452) (dd d_Mod_ask_4 35 rfl) f_Mod_379 ob_MO rfl ?_
      refine g_imul (pc := 455) (dd d_Mod_ask_4 36 rfl) ?_
      refine g_iconst (pc := 456) (v := 3) (dd d_Mod_ask_4 37 rfl) (by decide) ?_
      refine g_iadd (pc := 457) (dd d_Mod_ask_4 38 rfl) ?_
      refine g_aload_n (pc := 458) (dd d_Mod_ask_4 39 rfl) rfl ?_
      refine g_geti (pc := 459) (dd d_Mod_ask_4 40 rfl) f_Mod_552 ob_MO rfl ?_
      obtain ⟨c59, h⟩ := chk_e h
      refine g_iastN (pc := 462) (dd d_Mod_ask_4 41 rfl) ar_A_answers c59 (fun I60 hI60 => ?_)
      replace h := lt_e h hI60
      refine g_aload_n (pc := 463) (dd d_Mod_ask_4 42 rfl) rfl ?_
      refine g_getr (pc := 464) (dd d_Mod_ask_4 43 rfl) f_Mod_98 ob_MO rfl (mr_answers hX) ?_
      refine g_iconst (pc := 467) (v := 5) (dd d_Mod_ask_4 44 rfl) (by decide) ?_
      refine g_aload_n (pc := 468) (dd d_Mod_ask_4 45 rfl) rfl ?_
      refine g_geti (pc := 469) (dd d_Mod_ask_4 46 rfl) f_Mod_379 ob_MO rfl ?_
      refine g_imul (pc := 472) (dd d_Mod_ask_4 47 rfl) ?_
      refine g_iconst (pc := 473) (v := 4) (dd d_Mod_ask_4 48 rfl) (by decide) ?_
      refine g_iadd (pc := 474) (dd d_Mod_ask_4 49 rfl) ?_
      refine g_aload_n (pc := 475) (dd d_Mod_ask_4 50 rfl) rfl ?_
      refine g_geti (pc := 476) (dd d_Mod_ask_4 51 rfl) f_Mod_114 ob_MO rfl ?_
      obtain ⟨c61, h⟩ := chk_e h
      refine g_iastN (pc := 479) (dd d_Mod_ask_4 52 rfl) ar_A_answers c61 (fun I62 hI62 => ?_)
      replace h := lt_e h hI62
      refine g_aload_n (pc := 480) (dd d_Mod_ask_4 53 rfl) rfl ?_
      refine g_aload_n (pc := 481) (dd d_Mod_ask_4 54 rfl) rfl ?_
      refine g_geti (pc := 482) (dd d_Mod_ask_4 55 rfl) f_Mod_379 ob_MO rfl ?_
      refine g_iconst (pc := 485) (v := 1) (dd d_Mod_ask_4 56 rfl) (by decide) ?_
      refine g_iadd (pc := 486) (dd d_Mod_ask_4 57 rfl) ?_
      refine g_bipush (pc := 487) (v := 8) (dd d_Mod_ask_4 58 rfl) (by decide) ?_
      refine g_irem (pc := 489) (dd d_Mod_ask_4 59 rfl) (by decide) ?_
      refine g_putiN (pc := 490) (dd d_Mod_ask_5 0 rfl) f_Mod_379 fm_Mod_59 ob_MO rfl (fun I63 hI63 => ?_)
      replace h := lt_e h hI63
      refine g_aload_n (pc := 493) (dd d_Mod_ask_5 1 rfl) rfl ?_
      refine g_aload_n (pc := 494) (dd d_Mod_ask_5 2 rfl) rfl ?_
      refine g_geti (pc := 495) (dd d_Mod_ask_5 3 rfl) f_Mod_376 ob_MO rfl ?_
      refine g_bipush (pc := 498) (v := 8) (dd d_Mod_ask_5 4 rfl) (by decide) ?_
      suffices K500 : ∀ z : Int32, z = (if (8 : Int32) ≤ (I63 MO 58 : Int32) then 8 else ((I63 MO 58) + (1)) : Int32) → GG Δ m_Mod_ask Γ NN 0 0 (I63, X) 514 [some (.ref (Δ.ba + MO)), none, none, some (.int (x3)), none, none] [.int (z), .ref (Δ.ba + MO)] by
        refine g_icmpge (pc := 500) (tgt := 512) (dd d_Mod_ask_5 5 rfl) (by decide) (fun q64 => ?_) (fun q64 => ?_)
        · skip
          refine g_bipush (pc := 512) (v := 8) (dd d_Mod_ask_5 11 rfl) (by decide) ?_
          exact K500 _ (by rw [if_pos q64])
        · skip
          refine g_aload_n (pc := 503) (dd d_Mod_ask_5 6 rfl) rfl ?_
          refine g_geti (pc := 504) (dd d_Mod_ask_5 7 rfl) f_Mod_376 ob_MO rfl ?_
          refine g_iconst (pc := 507) (v := 1) (dd d_Mod_ask_5 8 rfl) (by decide) ?_
          refine g_iadd (pc := 508) (dd d_Mod_ask_5 9 rfl) ?_
          refine g_goto (pc := 509) (tgt := 514) (dd d_Mod_ask_5 10 rfl) (by decide) ?_
          exact K500 _ (by rw [if_neg q64])
      intro z hz
      subst hz
      refine g_putiN (pc := 514) (dd d_Mod_ask_5 12 rfl) f_Mod_376 fm_Mod_58 ob_MO rfl (fun I65 hI65 => ?_)
      replace h := lt_e h hI65
      cases h
      exact g_vret (pc := 517) rfl (dd d_Mod_ask_5 13 rfl) hT
    · replace h := ite_f h q52
      refine g_aload_n (pc := 371) (dd d_Mod_ask_3 45 rfl) rfl ?_
      refine g_getr (pc := 372) (dd d_Mod_ask_3 46 rfl) f_Mod_95 ob_MO rfl (mr_cache hX) ?_
      refine g_bipush (pc := 375) (v := 16) (dd d_Mod_ask_3 47 rfl) (by decide) ?_
      refine g_aload_n (pc := 377) (dd d_Mod_ask_3 48 rfl) rfl ?_
      refine g_geti (pc := 378) (dd d_Mod_ask_3 49 rfl) f_Mod_379 ob_MO rfl ?_
      refine g_imul (pc := 381) (dd d_Mod_ask_3 50 rfl) ?_
      refine g_iload_n (pc := 382) (dd d_Mod_ask_3 51 rfl) rfl ?_
      refine g_iadd (pc := 383) (dd d_Mod_ask_3 52 rfl) ?_
      refine g_aload_n (pc := 384) (dd d_Mod_ask_3 53 rfl) rfl ?_
      refine g_getr (pc := 385) (dd d_Mod_ask_3 54 rfl) f_Mod_101 ob_MO rfl (mr_question hX) ?_
      refine g_iload_n (pc := 388) (dd d_Mod_ask_3 55 rfl) rfl ?_
      obtain ⟨c66, h⟩ := chk_e h
      refine g_iald (pc := 389) (dd d_Mod_ask_3 56 rfl) ar_A_question c66 ?_
      obtain ⟨c67, h⟩ := chk_e h
      refine g_iastN (pc := 390) (dd d_Mod_ask_3 57 rfl) ar_A_cache c67 (fun I68 hI68 => ?_)
      replace h := lt_e h hI68
      refine g_iincW (pc := 391) (w := 1) (dd d_Mod_ask_3 58 rfl) rfl (by decide) (by decide) ?_
      refine g_goto (pc := 394) (tgt := 365) (dd d_Mod_ask_3 59 rfl) (by decide) ?_
      exact ih _ _ h
def l_Mod_ask_124 (n : Nat)  : Nat → Int32 → Int32 → Int32 → IM → Option (IM)
  | 0, _, _, _, _ => none
  | f + 1, x1, x2, x3, I => if (I MO 58 : Int32) ≤ x3 then (Option.bind (f_Mod_rule n x1 I) fun v20 => if x2 < 0 then (l_Mod_ask_365 n  n 0 v20) else (lt (up v20 MO 54 ((v20 MO 54) + 1)) fun I23 => chk (inb ((4 * (I23 MO 75)) + 2) 88) <| lt (up I23 A_counts ((4 * (I23 MO 75)) + 2 : Int32).toNatClampNeg ((I23 A_counts ((4 * (I23 MO 75)) + 2 : Int32).toNatClampNeg) + 1)) fun I25 => lt (up I25 MO 67 (3)) fun I26 => chk (inb (5 * x2) 40) <| lt (up I26 MO 82 (I26 A_answers (5 * x2 : Int32).toNatClampNeg)) fun I28 => Option.bind (f_Mod_tells n x1 51 I28) fun v29 => if v29 = 0 then (b_Mod_ask_283 n  x1 x2 (I28 MO 83) I28) else (chk (inb ((5 * x2) + 1) 40) <| b_Mod_ask_283 n  x1 x2 (I28 A_answers ((5 * x2) + 1 : Int32).toNatClampNeg) I28))) else (l_Mod_ask_138 n (l_Mod_ask_124 n  f) n x1 x2 x3 1 0 I)
set_option maxRecDepth 20000 in
set_option maxHeartbeats 4000000 in
theorem gl_Mod_ask_124 {Δ : Dx} {X : Lx} (hX : MX Δ X)   {n : Nat} {Γ : Cx} (hk : Γ.k = 5) {r : IM} (hT : Tg Δ Γ none NN (r, X) 0 0)  : ∀ (f : Nat) (x1 : Int32) (x2 : Int32) (x3 : Int32) (I : IM), l_Mod_ask_124 n  f x1 x2 x3 I = some r → GG Δ m_Mod_ask Γ NN 0 0 (I, X) 124 [some (.ref (Δ.ba + MO)), some (.int (x1)), some (.int (x2)), some (.int (x3)), none, none] []
  | 0, _, _, _, _, h => by cases h
  | f + 1, x1, x2, x3, I, h => by
    have ih := gl_Mod_ask_124 (n := n) hX hk hT  f
    rw [l_Mod_ask_124] at h
    refine g_iload_n (pc := 124) (dd d_Mod_ask_1 20 rfl) rfl ?_
    refine g_aload_n (pc := 125) (dd d_Mod_ask_1 21 rfl) rfl ?_
    refine g_geti (pc := 126) (dd d_Mod_ask_1 22 rfl) f_Mod_376 ob_MO rfl ?_
    refine g_icmpge (pc := 129) (tgt := 202) (dd d_Mod_ask_1 23 rfl) (by decide) (fun q19 => ?_) (fun q19 => ?_)
    · replace h := ite_t h q19
      refine g_aload_n (pc := 202) (dd d_Mod_ask_2 0 rfl) rfl ?_
      refine g_iload_n (pc := 203) (dd d_Mod_ask_2 1 rfl) rfl ?_
      obtain ⟨v20, e21, h⟩ := bnd_e h
      refine g_callV (pc := 204) (dd d_Mod_ask_2 2 rfl) v_Mod_561 ob_MO rfl (ef_Mod_rule hX e21) rfl (by rw [hk]; decide) (Nat.le_of_ble_eq_true rfl) ⟨Nat.zero_le _, Nat.zero_le _⟩ rfl ?_
      refine g_iload_n (pc := 207) (dd d_Mod_ask_2 3 rfl) rfl ?_
      refine g_iflt (pc := 208) (tgt := 363) (dd d_Mod_ask_2 4 rfl) (by decide) (fun q22 => ?_) (fun q22 => ?_)
      · replace h := ite_t h q22
        refine g_iconst (pc := 363) (v := 0) (dd d_Mod_ask_3 40 rfl) (by decide) ?_
        refine g_istore_n (pc := 364) (dd d_Mod_ask_3 41 rfl) (by decide) ?_
        refine g_drop [1, 2] ?_
        exact gl_Mod_ask_365 hX hk hT  _ _ _ h
      · replace h := ite_f h q22
        refine g_aload_n (pc := 211) (dd d_Mod_ask_2 5 rfl) rfl ?_
        refine g_dup (pc := 212) (dd d_Mod_ask_2 6 rfl) rfl ?_
        refine g_geti (pc := 213) (dd d_Mod_ask_2 7 rfl) f_Mod_385 ob_MO rfl ?_
        refine g_iconst (pc := 216) (v := 1) (dd d_Mod_ask_2 8 rfl) (by decide) ?_
        refine g_iadd (pc := 217) (dd d_Mod_ask_2 9 rfl) ?_
        refine g_putiN (pc := 218) (dd d_Mod_ask_2 10 rfl) f_Mod_385 fm_Mod_54 ob_MO rfl (fun I23 hI23 => ?_)
        replace h := lt_e h hI23
        refine g_aload_n (pc := 221) (dd d_Mod_ask_2 11 rfl) rfl ?_
        refine g_getr (pc := 222) (dd d_Mod_ask_2 12 rfl) f_Mod_107 ob_MO rfl (mr_counts hX) ?_
        refine g_iconst (pc := 225) (v := 4) (dd d_Mod_ask_2 13 rfl) (by decide) ?_
        refine g_aload_n (pc := 226) (dd d_Mod_ask_2 14 rfl) rfl ?_
        refine g_geti (pc := 227) (dd d_Mod_ask_2 15 rfl) f_Mod_492 ob_MO rfl ?_
        refine g_imul (pc := 230) (dd d_Mod_ask_2 16 rfl) ?_
        refine g_iconst (pc := 231) (v := 2) (dd d_Mod_ask_2 17 rfl) (by decide) ?_
        refine g_iadd (pc := 232) (dd d_Mod_ask_2 18 rfl) ?_
        refine g_dup2 (pc := 233) (dd d_Mod_ask_2 19 rfl) rfl rfl ?_
        obtain ⟨c24, h⟩ := chk_e h
        refine g_iald (pc := 234) (dd d_Mod_ask_2 20 rfl) ar_A_counts c24 ?_
        refine g_iconst (pc := 235) (v := 1) (dd d_Mod_ask_2 21 rfl) (by decide) ?_
        refine g_iadd (pc := 236) (dd d_Mod_ask_2 22 rfl) ?_
        refine g_iastN (pc := 237) (dd d_Mod_ask_2 23 rfl) ar_A_counts c24 (fun I25 hI25 => ?_)
        replace h := lt_e h hI25
        refine g_aload_n (pc := 238) (dd d_Mod_ask_2 24 rfl) rfl ?_
        refine g_iconst (pc := 239) (v := 3) (dd d_Mod_ask_2 25 rfl) (by decide) ?_
        refine g_putiN (pc := 240) (dd d_Mod_ask_2 26 rfl) f_Mod_558 fm_Mod_67 ob_MO rfl (fun I26 hI26 => ?_)
        replace h := lt_e h hI26
        refine g_aload_n (pc := 243) (dd d_Mod_ask_2 27 rfl) rfl ?_
        refine g_aload_n (pc := 244) (dd d_Mod_ask_2 28 rfl) rfl ?_
        refine g_getr (pc := 245) (dd d_Mod_ask_2 29 rfl) f_Mod_98 ob_MO rfl (mr_answers hX) ?_
        refine g_iconst (pc := 248) (v := 5) (dd d_Mod_ask_2 30 rfl) (by decide) ?_
        refine g_iload_n (pc := 249) (dd d_Mod_ask_2 31 rfl) rfl ?_
        refine g_imul (pc := 250) (dd d_Mod_ask_2 32 rfl) ?_
        obtain ⟨c27, h⟩ := chk_e h
        refine g_iald (pc := 251) (dd d_Mod_ask_2 33 rfl) ar_A_answers c27 ?_
        refine g_putiN (pc := 252) (dd d_Mod_ask_2 34 rfl) f_Mod_514 fm_Mod_82 ob_MO rfl (fun I28 hI28 => ?_)
        replace h := lt_e h hI28
        refine g_aload_n (pc := 255) (dd d_Mod_ask_2 35 rfl) rfl ?_
        refine g_aload_n (pc := 256) (dd d_Mod_ask_2 36 rfl) rfl ?_
        refine g_iload_n (pc := 257) (dd d_Mod_ask_2 37 rfl) rfl ?_
        refine g_bipush (pc := 258) (v := 51) (dd d_Mod_ask_2 38 rfl) (by decide) ?_
        obtain ⟨v29, e30, h⟩ := bnd_e h
        refine g_callV (pc := 260) (dd d_Mod_ask_2 39 rfl) v_Mod_564 ob_MO rfl (ef_Mod_tells hX e30) rfl (by rw [hk]; decide) (Nat.le_of_ble_eq_true rfl) ⟨Nat.zero_le _, Nat.zero_le _⟩ rfl ?_
        refine g_ifeq (pc := 263) (tgt := 279) (dd d_Mod_ask_2 40 rfl) (by decide) (fun q31 => ?_) (fun q31 => ?_)
        · replace h := ite_t h q31
          refine g_aload_n (pc := 279) (dd d_Mod_ask_2 50 rfl) rfl ?_
          refine g_geti (pc := 280) (dd d_Mod_ask_2 51 rfl) f_Mod_546 ob_MO rfl ?_
          refine g_drop [3] ?_
          exact gb_Mod_ask_283 hX hk hT  h
        · replace h := ite_f h q31
          refine g_aload_n (pc := 266) (dd d_Mod_ask_2 41 rfl) rfl ?_
          refine g_getr (pc := 267) (dd d_Mod_ask_2 42 rfl) f_Mod_98 ob_MO rfl (mr_answers hX) ?_
          refine g_iconst (pc := 270) (v := 5) (dd d_Mod_ask_2 43 rfl) (by decide) ?_
          refine g_iload_n (pc := 271) (dd d_Mod_ask_2 44 rfl) rfl ?_
          refine g_imul (pc := 272) (dd d_Mod_ask_2 45 rfl) ?_
          refine g_iconst (pc := 273) (v := 1) (dd d_Mod_ask_2 46 rfl) (by decide) ?_
          refine g_iadd (pc := 274) (dd d_Mod_ask_2 47 rfl) ?_
          obtain ⟨c32, h⟩ := chk_e h
          refine g_iald (pc := 275) (dd d_Mod_ask_2 48 rfl) ar_A_answers c32 ?_
          refine g_goto (pc := 276) (tgt := 283) (dd d_Mod_ask_2 49 rfl) (by decide) ?_
          refine g_drop [3] ?_
          exact gb_Mod_ask_283 hX hk hT  h
    · replace h := ite_f h q19
      refine g_iconst (pc := 132) (v := 1) (dd d_Mod_ask_1 24 rfl) (by decide) ?_
      refine g_istore (pc := 133) (dd d_Mod_ask_1 25 rfl) (by decide) ?_
      refine g_iconst (pc := 135) (v := 0) (dd d_Mod_ask_1 26 rfl) (by decide) ?_
      refine g_istore (pc := 136) (dd d_Mod_ask_1 27 rfl) (by decide) ?_
      exact gl_Mod_ask_138 hX hk hT ih _ _ _ _ _ _ _ h
def l_Mod_ask_45 (n : Nat)  : Nat → Int32 → Int32 → IM → Option (IM)
  | 0, _, _, _ => none
  | f + 1, x1, x2, I => if (15 : Int32) ≤ x2 then (lt (up I MO 53 ((I MO 53) + 1)) fun I9 => chk (inb ((4 * (I9 MO 75)) + 1) 88) <| lt (up I9 A_counts ((4 * (I9 MO 75)) + 1 : Int32).toNatClampNeg ((I9 A_counts ((4 * (I9 MO 75)) + 1 : Int32).toNatClampNeg) + 1)) fun I11 => lt (up I11 MO 67 (2)) fun I12 => l_Mod_ask_124 n  n x1 (-1) 0 I12) else (chk (inb x1 602) <| if (((I A_named x1.toNatClampNeg : Int32) >>> ((x2 : Int32) &&& 31)) &&& 1 : Int32) = (1 : Int32) then (Option.bind (f_Mod_nameValue  x2 I) fun v15 => b_Mod_ask_81 n (l_Mod_ask_45 n  f) x1 x2 v15 (x2 + 1) I) else (b_Mod_ask_81 n (l_Mod_ask_45 n  f) x1 x2 0 (x2 + 1) I))
set_option maxRecDepth 20000 in
set_option maxHeartbeats 4000000 in
theorem gl_Mod_ask_45 {Δ : Dx} {X : Lx} (hX : MX Δ X)   {n : Nat} {Γ : Cx} (hk : Γ.k = 5) {r : IM} (hT : Tg Δ Γ none NN (r, X) 0 0)  : ∀ (f : Nat) (x1 : Int32) (x2 : Int32) (I : IM), l_Mod_ask_45 n  f x1 x2 I = some r → GG Δ m_Mod_ask Γ NN 0 0 (I, X) 45 [some (.ref (Δ.ba + MO)), some (.int (x1)), some (.int (x2)), none, none, none] []
  | 0, _, _, _, h => by cases h
  | f + 1, x1, x2, I, h => by
    have ih := gl_Mod_ask_45 (n := n) hX hk hT  f
    rw [l_Mod_ask_45] at h
    refine g_iload_n (pc := 45) (dd d_Mod_ask 28 rfl) rfl ?_
    refine g_bipush (pc := 46) (v := 15) (dd d_Mod_ask 29 rfl) (by decide) ?_
    refine g_icmpge (pc := 48) (tgt := 88) (dd d_Mod_ask 30 rfl) (by decide) (fun q8 => ?_) (fun q8 => ?_)
    · replace h := ite_t h q8
      refine g_aload_n (pc := 88) (dd d_Mod_ask 54 rfl) rfl ?_
      refine g_dup (pc := 89) (dd d_Mod_ask 55 rfl) rfl ?_
      refine g_geti (pc := 90) (dd d_Mod_ask 56 rfl) f_Mod_382 ob_MO rfl ?_
      refine g_iconst (pc := 93) (v := 1) (dd d_Mod_ask 57 rfl) (by decide) ?_
      refine g_iadd (pc := 94) (dd d_Mod_ask 58 rfl) ?_
      refine g_putiN (pc := 95) (dd d_Mod_ask 59 rfl) f_Mod_382 fm_Mod_53 ob_MO rfl (fun I9 hI9 => ?_)
      replace h := lt_e h hI9
      refine g_aload_n (pc := 98) (dd d_Mod_ask_1 0 rfl) rfl ?_
      refine g_getr (pc := 99) (dd d_Mod_ask_1 1 rfl) f_Mod_107 ob_MO rfl (mr_counts hX) ?_
      refine g_iconst (pc := 102) (v := 4) (dd d_Mod_ask_1 2 rfl) (by decide) ?_
      refine g_aload_n (pc := 103) (dd d_Mod_ask_1 3 rfl) rfl ?_
      refine g_geti (pc := 104) (dd d_Mod_ask_1 4 rfl) f_Mod_492 ob_MO rfl ?_
      refine g_imul (pc := 107) (dd d_Mod_ask_1 5 rfl) ?_
      refine g_iconst (pc := 108) (v := 1) (dd d_Mod_ask_1 6 rfl) (by decide) ?_
      refine g_iadd (pc := 109) (dd d_Mod_ask_1 7 rfl) ?_
      refine g_dup2 (pc := 110) (dd d_Mod_ask_1 8 rfl) rfl rfl ?_
      obtain ⟨c10, h⟩ := chk_e h
      refine g_iald (pc := 111) (dd d_Mod_ask_1 9 rfl) ar_A_counts c10 ?_
      refine g_iconst (pc := 112) (v := 1) (dd d_Mod_ask_1 10 rfl) (by decide) ?_
      refine g_iadd (pc := 113) (dd d_Mod_ask_1 11 rfl) ?_
      refine g_iastN (pc := 114) (dd d_Mod_ask_1 12 rfl) ar_A_counts c10 (fun I11 hI11 => ?_)
      replace h := lt_e h hI11
      refine g_aload_n (pc := 115) (dd d_Mod_ask_1 13 rfl) rfl ?_
      refine g_iconst (pc := 116) (v := 2) (dd d_Mod_ask_1 14 rfl) (by decide) ?_
      refine g_putiN (pc := 117) (dd d_Mod_ask_1 15 rfl) f_Mod_558 fm_Mod_67 ob_MO rfl (fun I12 hI12 => ?_)
      replace h := lt_e h hI12
      refine g_iconst (pc := 120) (v := (-1)) (dd d_Mod_ask_1 16 rfl) (by decide) ?_
      refine g_istore_n (pc := 121) (dd d_Mod_ask_1 17 rfl) (by decide) ?_
      refine g_iconst (pc := 122) (v := 0) (dd d_Mod_ask_1 18 rfl) (by decide) ?_
      refine g_istore_n (pc := 123) (dd d_Mod_ask_1 19 rfl) (by decide) ?_
      exact gl_Mod_ask_124 hX hk hT  _ _ _ _ _ h
    · replace h := ite_f h q8
      refine g_aload_n (pc := 51) (dd d_Mod_ask 31 rfl) rfl ?_
      refine g_getr (pc := 52) (dd d_Mod_ask 32 rfl) f_Mod_101 ob_MO rfl (mr_question hX) ?_
      refine g_iload_n (pc := 55) (dd d_Mod_ask 33 rfl) rfl ?_
      refine g_iconst (pc := 56) (v := 1) (dd d_Mod_ask 34 rfl) (by decide) ?_
      refine g_iadd (pc := 57) (dd d_Mod_ask 35 rfl) ?_
      refine g_aload_n (pc := 58) (dd d_Mod_ask 36 rfl) rfl ?_
      refine g_getr (pc := 59) (dd d_Mod_ask 37 rfl) f_Mod_47 ob_MO rfl (mr_named hX) ?_
      refine g_iload_n (pc := 62) (dd d_Mod_ask 38 rfl) rfl ?_
      obtain ⟨c13, h⟩ := chk_e h
      refine g_iald (pc := 63) (dd d_Mod_ask 39 rfl) ar_A_named c13 ?_
      refine g_iload_n (pc := 64) (dd d_Mod_ask 40 rfl) rfl ?_
      refine g_ishr (pc := 65) (dd d_Mod_ask 41 rfl) ?_
      refine g_iconst (pc := 66) (v := 1) (dd d_Mod_ask 42 rfl) (by decide) ?_
      refine g_iand (pc := 67) (dd d_Mod_ask 43 rfl) ?_
      refine g_iconst (pc := 68) (v := 1) (dd d_Mod_ask 44 rfl) (by decide) ?_
      refine g_icmpne (pc := 69) (tgt := 80) (dd d_Mod_ask 45 rfl) (by decide) (fun q14 => ?_) (fun q14 => ?_)
      · replace h := ite_f h q14
        refine g_iconst (pc := 80) (v := 0) (dd d_Mod_ask 50 rfl) (by decide) ?_
        exact gb_Mod_ask_81 hX hk hT ih h
      · replace h := ite_t h q14
        refine g_aload_n (pc := 72) (dd d_Mod_ask 46 rfl) rfl ?_
        refine g_iload_n (pc := 73) (dd d_Mod_ask 47 rfl) rfl ?_
        obtain ⟨v15, e16, h⟩ := bnd_e h
        refine g_callV (pc := 74) (dd d_Mod_ask 48 rfl) v_Mod_530 ob_MO rfl (ef_Mod_nameValue hX e16) rfl (by rw [hk]; decide) (Nat.le_of_ble_eq_true rfl) ⟨Nat.zero_le _, Nat.zero_le _⟩ rfl ?_
        refine g_goto (pc := 77) (tgt := 81) (dd d_Mod_ask 49 rfl) (by decide) ?_
        exact gb_Mod_ask_81 hX hk hT ih h
def f_Mod_ask (n : Nat) (I : IM) : Option (IM) := chk (inb (I MO 75) 44) <| lt (up I MO 67 (1)) fun I2 => chk (inb (I A_ruleOf (I MO 75 : Int32).toNatClampNeg) 602) <| if ((I2 A_named (I A_ruleOf (I MO 75 : Int32).toNatClampNeg : Int32).toNatClampNeg : Int32) >>> ((15 : Int32) &&& 31) : Int32) = 0 then (lt (up I2 A_question (0 : Int32).toNatClampNeg (I2 MO 75)) fun I5 => l_Mod_ask_45 n  n (I A_ruleOf (I MO 75 : Int32).toNatClampNeg) 0 I5) else (Option.bind (f_Mod_rule n (I A_ruleOf (I MO 75 : Int32).toNatClampNeg) I2) fun v6 => some v6)
set_option maxRecDepth 20000 in
set_option maxHeartbeats 4000000 in
theorem ef_Mod_ask {Δ : Dx} {X : Lx} (hX : MX Δ X) {n : Nat}  {I : IM}  {r : IM} (h : f_Mod_ask n I = some r) : Ev Δ 5 m_Mod_ask [.ref (Δ.ba + MO)] (I, X) none (r, X) := by
  refine ev_of (by decide) (Nat.le_of_ble_eq_true rfl) (fun Γ hk hR hT => ?_)
  change GG Δ m_Mod_ask Γ NN 0 0 (I, X) 0 [some (.ref (Δ.ba + MO)), none, none, none, none, none] []
  unfold f_Mod_ask at h
  refine g_aload_n (pc := 0) (dd d_Mod_ask 0 rfl) rfl ?_
  refine g_getr (pc := 1) (dd d_Mod_ask 1 rfl) f_Mod_44 ob_MO rfl (mr_ruleOf hX) ?_
  refine g_aload_n (pc := 4) (dd d_Mod_ask 2 rfl) rfl ?_
  refine g_geti (pc := 5) (dd d_Mod_ask 3 rfl) f_Mod_492 ob_MO rfl ?_
  obtain ⟨c1, h⟩ := chk_e h
  refine g_iald (pc := 8) (dd d_Mod_ask 4 rfl) ar_A_ruleOf c1 ?_
  refine g_istore_n (pc := 9) (dd d_Mod_ask 5 rfl) (by decide) ?_
  refine g_aload_n (pc := 10) (dd d_Mod_ask 6 rfl) rfl ?_
  refine g_iconst (pc := 11) (v := 1) (dd d_Mod_ask 7 rfl) (by decide) ?_
  refine g_putiN (pc := 12) (dd d_Mod_ask 8 rfl) f_Mod_558 fm_Mod_67 ob_MO rfl (fun I2 hI2 => ?_)
  replace h := lt_e h hI2
  refine g_aload_n (pc := 15) (dd d_Mod_ask 9 rfl) rfl ?_
  refine g_getr (pc := 16) (dd d_Mod_ask 10 rfl) f_Mod_47 ob_MO rfl (mr_named hX) ?_
  refine g_iload_n (pc := 19) (dd d_Mod_ask 11 rfl) rfl ?_
  obtain ⟨c3, h⟩ := chk_e h
  refine g_iald (pc := 20) (dd d_Mod_ask 12 rfl) ar_A_named c3 ?_
  refine g_bipush (pc := 21) (v := 15) (dd d_Mod_ask 13 rfl) (by decide) ?_
  refine g_ishr (pc := 23) (dd d_Mod_ask 14 rfl) ?_
  refine g_ifeq (pc := 24) (tgt := 33) (dd d_Mod_ask 15 rfl) (by decide) (fun q4 => ?_) (fun q4 => ?_)
  · replace h := ite_t h q4
    refine g_aload_n (pc := 33) (dd d_Mod_ask 20 rfl) rfl ?_
    refine g_getr (pc := 34) (dd d_Mod_ask 21 rfl) f_Mod_101 ob_MO rfl (mr_question hX) ?_
    refine g_iconst (pc := 37) (v := 0) (dd d_Mod_ask 22 rfl) (by decide) ?_
    refine g_aload_n (pc := 38) (dd d_Mod_ask 23 rfl) rfl ?_
    refine g_geti (pc := 39) (dd d_Mod_ask 24 rfl) f_Mod_492 ob_MO rfl ?_
    refine g_iastN (pc := 42) (dd d_Mod_ask 25 rfl) ar_A_question (by rw [vp_in_iff]; decide) (fun I5 hI5 => ?_)
    replace h := lt_e h hI5
    refine g_iconst (pc := 43) (v := 0) (dd d_Mod_ask 26 rfl) (by decide) ?_
    refine g_istore_n (pc := 44) (dd d_Mod_ask 27 rfl) (by decide) ?_
    exact gl_Mod_ask_45 hX hk hT  _ _ _ _ h
  · replace h := ite_f h q4
    refine g_aload_n (pc := 27) (dd d_Mod_ask 16 rfl) rfl ?_
    refine g_iload_n (pc := 28) (dd d_Mod_ask 17 rfl) rfl ?_
    obtain ⟨v6, e7, h⟩ := bnd_e h
    refine g_callV (pc := 29) (dd d_Mod_ask 18 rfl) v_Mod_561 ob_MO rfl (ef_Mod_rule hX e7) rfl (by rw [hk]; decide) (Nat.le_of_ble_eq_true rfl) ⟨Nat.zero_le _, Nat.zero_le _⟩ rfl ?_
    cases h
    exact g_vret (pc := 32) rfl (dd d_Mod_ask 19 rfl) hT
