/-! the reference: each method a function, and its contract -/
def f_Mod_between (x1 : Int32) (x2 : Int32) (I : IM) : Option (Int32) := some (if (I MO 75 : Int32) < x1 then 0 else (if x2 < (I MO 75 : Int32) then 0 else 1))
set_option maxRecDepth 20000 in
set_option maxHeartbeats 4000000 in
theorem ef_Mod_between {Δ : Dx} {X : Lx} (hX : MX Δ X) {x1 : Int32} {x2 : Int32}  {I : IM}  {r : Int32} (h : f_Mod_between x1 x2 I = some r) : Ev Δ 0 m_Mod_between [.ref (Δ.ba + MO), .int x1, .int x2] (I, X) (some (.int r)) (I, X) := by
  refine ev_of (by decide) (Nat.le_of_ble_eq_true rfl) (fun Γ hk hR hT => ?_)
  change GG Δ m_Mod_between Γ NN 0 0 (I, X) 0 [some (.ref (Δ.ba + MO)), some (.int (x1)), some (.int (x2))] []
  unfold f_Mod_between at h
  refine g_aload_n (pc := 0) (dd d_Mod_between 0 rfl) rfl ?_
  refine g_geti (pc := 1) (dd d_Mod_between 1 rfl) f_Mod_492 ob_MO rfl ?_
  refine g_iload_n (pc := 4) (dd d_Mod_between 2 rfl) rfl ?_
  suffices K5 : ∀ z : Int32, z = (if (I MO 75 : Int32) < x1 then 0 else (if x2 < (I MO 75 : Int32) then 0 else 1) : Int32) → GG Δ m_Mod_between Γ NN 0 0 (I, X) 21 [some (.ref (Δ.ba + MO)), some (.int (x1)), some (.int (x2))] [.int (z)] by
    refine g_icmplt (pc := 5) (tgt := 20) (dd d_Mod_between 3 rfl) (by decide) (fun q1 => ?_) (fun q1 => ?_)
    · skip
      refine g_iconst (pc := 20) (v := 0) (dd d_Mod_between 10 rfl) (by decide) ?_
      exact K5 _ (by rw [if_pos q1])
    · skip
      refine g_aload_n (pc := 8) (dd d_Mod_between 4 rfl) rfl ?_
      refine g_geti (pc := 9) (dd d_Mod_between 5 rfl) f_Mod_492 ob_MO rfl ?_
      refine g_iload_n (pc := 12) (dd d_Mod_between 6 rfl) rfl ?_
      refine g_icmpgt (pc := 13) (tgt := 20) (dd d_Mod_between 7 rfl) (by decide) (fun q2 => ?_) (fun q2 => ?_)
      · skip
        refine g_iconst (pc := 20) (v := 0) (dd d_Mod_between 10 rfl) (by decide) ?_
        exact K5 _ (by rw [if_neg q1, if_pos q2])
      · skip
        refine g_iconst (pc := 16) (v := 1) (dd d_Mod_between 8 rfl) (by decide) ?_
        refine g_goto (pc := 17) (tgt := 21) (dd d_Mod_between 9 rfl) (by decide) ?_
        exact K5 _ (by rw [if_neg q1, if_neg q2])
  intro z hz
  subst hz
  cases h
  exact g_zret (pc := 21) rfl (by (repeat' split) <;> first | exact Or.inl rfl | exact Or.inr rfl) (dd d_Mod_between 11 rfl) hT
def b_Mod_result_189 (I : IM)   : Option (Int32) := chk (inb (I MO 76) 8) <| some (I A_registers (I MO 76 : Int32).toNatClampNeg)
set_option maxRecDepth 20000 in
set_option maxHeartbeats 4000000 in
theorem gb_Mod_result_189 {Δ : Dx} {X : Lx} (hX : MX Δ X)   {I : IM} {Γ : Cx} (hk : Γ.k = 0) {r : Int32} (hT : Tg Δ Γ (some (.int r)) NN (I, X) 0 0)   (h : b_Mod_result_189 I   = some r) : GG Δ m_Mod_result Γ NN 0 0 (I, X) 189 [some (.ref (Δ.ba + MO)), none, none] [] := by
  unfold b_Mod_result_189 at h
  refine g_aload_n (pc := 189) (dd d_Mod_result_1 14 rfl) rfl ?_
  refine g_getr (pc := 190) (dd d_Mod_result_1 15 rfl) f_Mod_74 ob_MO rfl (mr_registers hX) ?_
  refine g_aload_n (pc := 193) (dd d_Mod_result_1 16 rfl) rfl ?_
  refine g_geti (pc := 194) (dd d_Mod_result_1 17 rfl) f_Mod_495 ob_MO rfl ?_
  obtain ⟨c7, h⟩ := chk_e h
  refine g_iald (pc := 197) (dd d_Mod_result_1 18 rfl) ar_A_registers c7 ?_
  cases h
  exact g_iret (pc := 198) rfl (dd d_Mod_result_1 19 rfl) hT
def f_Mod_result  (I : IM) : Option (Int32) := chk (inb (I MO 77) 8) <| chk (inb (I MO 78) 8) <| if (I MO 75 : Int32) = 1 then (some (I MO 79)) else (if (I MO 75 : Int32) = 2 then (some (I A_registers (I MO 77 : Int32).toNatClampNeg)) else (if (I MO 75 : Int32) = 3 then (some ((I A_registers (I MO 77 : Int32).toNatClampNeg) + (I A_registers (I MO 78 : Int32).toNatClampNeg))) else (if (I MO 75 : Int32) = 4 then (some ((I A_registers (I MO 77 : Int32).toNatClampNeg) - (I A_registers (I MO 78 : Int32).toNatClampNeg))) else (if (I MO 75 : Int32) = 5 then (some ((I A_registers (I MO 77 : Int32).toNatClampNeg) * (I A_registers (I MO 78 : Int32).toNatClampNeg))) else (if (I MO 75 : Int32) = 6 then (some ((I A_registers (I MO 77 : Int32).toNatClampNeg) &&& (I A_registers (I MO 78 : Int32).toNatClampNeg))) else (if (I MO 75 : Int32) = 7 then (some ((I A_registers (I MO 77 : Int32).toNatClampNeg) ||| (I A_registers (I MO 78 : Int32).toNatClampNeg))) else (if (I MO 75 : Int32) = 8 then (some ((I A_registers (I MO 77 : Int32).toNatClampNeg) ^^^ (I A_registers (I MO 78 : Int32).toNatClampNeg))) else (if (I MO 75 : Int32) = 9 then (some (if (I A_registers (I MO 78 : Int32).toNatClampNeg : Int32) ≤ (I A_registers (I MO 77 : Int32).toNatClampNeg : Int32) then 0 else 1)) else (if (I MO 75 : Int32) = 10 then (some (if (I A_registers (I MO 77 : Int32).toNatClampNeg : Int32) = (I A_registers (I MO 78 : Int32).toNatClampNeg : Int32) then 1 else 0)) else (if (I MO 75 : Int32) = 11 then (chk (inb (I MO 80) 96) <| some (I A_ints (I MO 80 : Int32).toNatClampNeg)) else (if (I MO 75 : Int32) = 12 then (b_Mod_result_189 I  ) else (if (I MO 75 : Int32) = 13 then (b_Mod_result_189 I  ) else (if (I MO 75 : Int32) = 14 then (b_Mod_result_189 I  ) else (if (I MO 75 : Int32) = 15 then (b_Mod_result_189 I  ) else (if (I MO 75 : Int32) = 16 then (some ((I MO 42) + 1)) else (if (I MO 75 : Int32) = 17 then (b_Mod_result_189 I  ) else (if (I MO 75 : Int32) = 18 then (some (I A_inputValues (0 : Int32).toNatClampNeg)) else (b_Mod_result_189 I  ))))))))))))))))))
set_option maxRecDepth 20000 in
set_option maxHeartbeats 4000000 in
theorem ef_Mod_result {Δ : Dx} {X : Lx} (hX : MX Δ X)   {I : IM}  {r : Int32} (h : f_Mod_result  I = some r) : Ev Δ 0 m_Mod_result [.ref (Δ.ba + MO)] (I, X) (some (.int r)) (I, X) := by
  refine ev_of (by decide) (Nat.le_of_ble_eq_true rfl) (fun Γ hk hR hT => ?_)
  change GG Δ m_Mod_result Γ NN 0 0 (I, X) 0 [some (.ref (Δ.ba + MO)), none, none] []
  unfold f_Mod_result at h
  refine g_aload_n (pc := 0) (dd d_Mod_result 0 rfl) rfl ?_
  refine g_getr (pc := 1) (dd d_Mod_result 1 rfl) f_Mod_74 ob_MO rfl (mr_registers hX) ?_
  refine g_aload_n (pc := 4) (dd d_Mod_result 2 rfl) rfl ?_
  refine g_geti (pc := 5) (dd d_Mod_result 3 rfl) f_Mod_498 ob_MO rfl ?_
  obtain ⟨c1, h⟩ := chk_e h
  refine g_iald (pc := 8) (dd d_Mod_result 4 rfl) ar_A_registers c1 ?_
  refine g_istore_n (pc := 9) (dd d_Mod_result 5 rfl) (by decide) ?_
  refine g_aload_n (pc := 10) (dd d_Mod_result 6 rfl) rfl ?_
  refine g_getr (pc := 11) (dd d_Mod_result 7 rfl) f_Mod_74 ob_MO rfl (mr_registers hX) ?_
  refine g_aload_n (pc := 14) (dd d_Mod_result 8 rfl) rfl ?_
  refine g_geti (pc := 15) (dd d_Mod_result 9 rfl) f_Mod_501 ob_MO rfl ?_
  obtain ⟨c2, h⟩ := chk_e h
  refine g_iald (pc := 18) (dd d_Mod_result 10 rfl) ar_A_registers c2 ?_
  refine g_istore_n (pc := 19) (dd d_Mod_result 11 rfl) (by decide) ?_
  refine g_aload_n (pc := 20) (dd d_Mod_result 12 rfl) rfl ?_
  refine g_geti (pc := 21) (dd d_Mod_result 13 rfl) f_Mod_492 ob_MO rfl ?_
  refine g_tableC (pc := 24) (dd d_Mod_result 14 rfl) (fun i off ho w3 => ?_) (by decide) (fun w3 => ⟨189, by decide, ?_⟩)
  · rcases i with _ | _ | _ | _ | _ | _ | _ | _ | _ | _ | _ | _ | _ | _ | _ | _ | _ | _ | i
    · obtain rfl : off = 88 := (Option.some.inj ho).symm
      refine ⟨112, by decide, ?_⟩
      replace w3 : (I MO 75 : Int32) = 1 := Int32.toInt_inj.mp w3
      replace h := ite_t h w3
      refine g_aload_n (pc := 112) (dd d_Mod_result 15 rfl) rfl ?_
      refine g_geti (pc := 113) (dd d_Mod_result 16 rfl) f_Mod_510 ob_MO rfl ?_
      cases h
      exact g_iret (pc := 116) rfl (dd d_Mod_result 17 rfl) hT
    · obtain rfl : off = 93 := (Option.some.inj ho).symm
      refine ⟨117, by decide, ?_⟩
      replace w3 : (I MO 75 : Int32) = 2 := Int32.toInt_inj.mp w3
      replace h := ite_f h (by rw [w3]; decide)
      replace h := ite_t h w3
      refine g_iload_n (pc := 117) (dd d_Mod_result 18 rfl) rfl ?_
      cases h
      exact g_iret (pc := 118) rfl (dd d_Mod_result 19 rfl) hT
    · obtain rfl : off = 95 := (Option.some.inj ho).symm
      refine ⟨119, by decide, ?_⟩
      replace w3 : (I MO 75 : Int32) = 3 := Int32.toInt_inj.mp w3
      replace h := ite_f h (by rw [w3]; decide)
      replace h := ite_f h (by rw [w3]; decide)
      replace h := ite_t h w3
      refine g_iload_n (pc := 119) (dd d_Mod_result 20 rfl) rfl ?_
      refine g_iload_n (pc := 120) (dd d_Mod_result 21 rfl) rfl ?_
      refine g_iadd (pc := 121) (dd d_Mod_result 22 rfl) ?_
      cases h
      exact g_iret (pc := 122) rfl (dd d_Mod_result 23 rfl) hT
    · obtain rfl : off = 99 := (Option.some.inj ho).symm
      refine ⟨123, by decide, ?_⟩
      replace w3 : (I MO 75 : Int32) = 4 := Int32.toInt_inj.mp w3
      replace h := ite_f h (by rw [w3]; decide)
      replace h := ite_f h (by rw [w3]; decide)
      replace h := ite_f h (by rw [w3]; decide)
      replace h := ite_t h w3
      refine g_iload_n (pc := 123) (dd d_Mod_result 24 rfl) rfl ?_
      refine g_iload_n (pc := 124) (dd d_Mod_result 25 rfl) rfl ?_
      refine g_isub (pc := 125) (dd d_Mod_result 26 rfl) ?_
      cases h
      exact g_iret (pc := 126) rfl (dd d_Mod_result 27 rfl) hT
    · obtain rfl : off = 103 := (Option.some.inj ho).symm
      refine ⟨127, by decide, ?_⟩
      replace w3 : (I MO 75 : Int32) = 5 := Int32.toInt_inj.mp w3
      replace h := ite_f h (by rw [w3]; decide)
      replace h := ite_f h (by rw [w3]; decide)
      replace h := ite_f h (by rw [w3]; decide)
      replace h := ite_f h (by rw [w3]; decide)
      replace h := ite_t h w3
      refine g_iload_n (pc := 127) (dd d_Mod_result 28 rfl) rfl ?_
      refine g_iload_n (pc := 128) (dd d_Mod_result 29 rfl) rfl ?_
      refine g_imul (pc := 129) (dd d_Mod_result 30 rfl) ?_
      cases h
      exact g_iret (pc := 130) rfl (dd d_Mod_result 31 rfl) hT
    · obtain rfl : off = 107 := (Option.some.inj ho).symm
      refine ⟨131, by decide, ?_⟩
      replace w3 : (I MO 75 : Int32) = 6 := Int32.toInt_inj.mp w3
      replace h := ite_f h (by rw [w3]; decide)
      replace h := ite_f h (by rw [w3]; decide)
      replace h := ite_f h (by rw [w3]; decide)
      replace h := ite_f h (by rw [w3]; decide)
      replace h := ite_f h (by rw [w3]; decide)
      replace h := ite_t h w3
      refine g_iload_n (pc := 131) (dd d_Mod_result 32 rfl) rfl ?_
      refine g_iload_n (pc := 132) (dd d_Mod_result 33 rfl) rfl ?_
      refine g_iand (pc := 133) (dd d_Mod_result 34 rfl) ?_
      cases h
      exact g_iret (pc := 134) rfl (dd d_Mod_result 35 rfl) hT
    · obtain rfl : off = 111 := (Option.some.inj ho).symm
      refine ⟨135, by decide, ?_⟩
      replace w3 : (I MO 75 : Int32) = 7 := Int32.toInt_inj.mp w3
      replace h := ite_f h (by rw [w3]; decide)
      replace h := ite_f h (by rw [w3]; decide)
      replace h := ite_f h (by rw [w3]; decide)
      replace h := ite_f h (by rw [w3]; decide)
      replace h := ite_f h (by rw [w3]; decide)
      replace h := ite_f h (by rw [w3]; decide)
      replace h := ite_t h w3
      refine g_iload_n (pc := 135) (dd d_Mod_result 36 rfl) rfl ?_
      refine g_iload_n (pc := 136) (dd d_Mod_result 37 rfl) rfl ?_
      refine g_ior (pc := 137) (dd d_Mod_result 38 rfl) ?_
      cases h
      exact g_iret (pc := 138) rfl (dd d_Mod_result 39 rfl) hT
    · obtain rfl : off = 115 := (Option.some.inj ho).symm
      refine ⟨139, by decide, ?_⟩
      replace w3 : (I MO 75 : Int32) = 8 := Int32.toInt_inj.mp w3
      replace h := ite_f h (by rw [w3]; decide)
      replace h := ite_f h (by rw [w3]; decide)
      replace h := ite_f h (by rw [w3]; decide)
      replace h := ite_f h (by rw [w3]; decide)
      replace h := ite_f h (by rw [w3]; decide)
      replace h := ite_f h (by rw [w3]; decide)
      replace h := ite_f h (by rw [w3]; decide)
      replace h := ite_t h w3
      refine g_iload_n (pc := 139) (dd d_Mod_result 40 rfl) rfl ?_
      refine g_iload_n (pc := 140) (dd d_Mod_result 41 rfl) rfl ?_
      refine g_ixor (pc := 141) (dd d_Mod_result 42 rfl) ?_
      cases h
      exact g_iret (pc := 142) rfl (dd d_Mod_result 43 rfl) hT
    · obtain rfl : off = 119 := (Option.some.inj ho).symm
      refine ⟨143, by decide, ?_⟩
      replace w3 : (I MO 75 : Int32) = 9 := Int32.toInt_inj.mp w3
      replace h := ite_f h (by rw [w3]; decide)
      replace h := ite_f h (by rw [w3]; decide)
      replace h := ite_f h (by rw [w3]; decide)
      replace h := ite_f h (by rw [w3]; decide)
      replace h := ite_f h (by rw [w3]; decide)
      replace h := ite_f h (by rw [w3]; decide)
      replace h := ite_f h (by rw [w3]; decide)
      replace h := ite_f h (by rw [w3]; decide)
      replace h := ite_t h w3
      refine g_iload_n (pc := 143) (dd d_Mod_result 44 rfl) rfl ?_
      refine g_iload_n (pc := 144) (dd d_Mod_result 45 rfl) rfl ?_
      suffices K145 : ∀ z : Int32, z = (if (I A_registers (I MO 78 : Int32).toNatClampNeg : Int32) ≤ (I A_registers (I MO 77 : Int32).toNatClampNeg : Int32) then 0 else 1 : Int32) → GG Δ m_Mod_result Γ NN 0 0 (I, X) 153 [some (.ref (Δ.ba + MO)), some (.int (I A_registers (I MO 77 : Int32).toNatClampNeg)), some (.int (I A_registers (I MO 78 : Int32).toNatClampNeg))] [.int (z)] by
        refine g_icmpge (pc := 145) (tgt := 152) (dd d_Mod_result 46 rfl) (by decide) (fun q4 => ?_) (fun q4 => ?_)
        · skip
          refine g_iconst (pc := 152) (v := 0) (dd d_Mod_result 49 rfl) (by decide) ?_
          exact K145 _ (by rw [if_pos q4])
        · skip
          refine g_iconst (pc := 148) (v := 1) (dd d_Mod_result 47 rfl) (by decide) ?_
          refine g_goto (pc := 149) (tgt := 153) (dd d_Mod_result 48 rfl) (by decide) ?_
          exact K145 _ (by rw [if_neg q4])
      intro z hz
      subst hz
      cases h
      exact g_iret (pc := 153) rfl (dd d_Mod_result 50 rfl) hT
    · obtain rfl : off = 130 := (Option.some.inj ho).symm
      refine ⟨154, by decide, ?_⟩
      replace w3 : (I MO 75 : Int32) = 10 := Int32.toInt_inj.mp w3
      replace h := ite_f h (by rw [w3]; decide)
      replace h := ite_f h (by rw [w3]; decide)
      replace h := ite_f h (by rw [w3]; decide)
      replace h := ite_f h (by rw [w3]; decide)
      replace h := ite_f h (by rw [w3]; decide)
      replace h := ite_f h (by rw [w3]; decide)
      replace h := ite_f h (by rw [w3]; decide)
      replace h := ite_f h (by rw [w3]; decide)
      replace h := ite_f h (by rw [w3]; decide)
      replace h := ite_t h w3
      refine g_iload_n (pc := 154) (dd d_Mod_result 51 rfl) rfl ?_
      refine g_iload_n (pc := 155) (dd d_Mod_result 52 rfl) rfl ?_
      suffices K156 : ∀ z : Int32, z = (if (I A_registers (I MO 77 : Int32).toNatClampNeg : Int32) = (I A_registers (I MO 78 : Int32).toNatClampNeg : Int32) then 1 else 0 : Int32) → GG Δ m_Mod_result Γ NN 0 0 (I, X) 164 [some (.ref (Δ.ba + MO)), some (.int (I A_registers (I MO 77 : Int32).toNatClampNeg)), some (.int (I A_registers (I MO 78 : Int32).toNatClampNeg))] [.int (z)] by
        refine g_icmpne (pc := 156) (tgt := 163) (dd d_Mod_result 53 rfl) (by decide) (fun q5 => ?_) (fun q5 => ?_)
        · skip
          refine g_iconst (pc := 163) (v := 0) (dd d_Mod_result 56 rfl) (by decide) ?_
          exact K156 _ (by rw [if_neg q5])
        · skip
          refine g_iconst (pc := 159) (v := 1) (dd d_Mod_result 54 rfl) (by decide) ?_
          refine g_goto (pc := 160) (tgt := 164) (dd d_Mod_result 55 rfl) (by decide) ?_
          exact K156 _ (by rw [if_pos q5])
      intro z hz
      subst hz
      cases h
      exact g_iret (pc := 164) rfl (dd d_Mod_result 57 rfl) hT
    · obtain rfl : off = 141 := (Option.some.inj ho).symm
      refine ⟨165, by decide, ?_⟩
      replace w3 : (I MO 75 : Int32) = 11 := Int32.toInt_inj.mp w3
      replace h := ite_f h (by rw [w3]; decide)
      replace h := ite_f h (by rw [w3]; decide)
      replace h := ite_f h (by rw [w3]; decide)
      replace h := ite_f h (by rw [w3]; decide)
      replace h := ite_f h (by rw [w3]; decide)
      replace h := ite_f h (by rw [w3]; decide)
      replace h := ite_f h (by rw [w3]; decide)
      replace h := ite_f h (by rw [w3]; decide)
      replace h := ite_f h (by rw [w3]; decide)
      replace h := ite_f h (by rw [w3]; decide)
      replace h := ite_t h w3
      refine g_aload_n (pc := 165) (dd d_Mod_result 58 rfl) rfl ?_
      refine g_getr (pc := 166) (dd d_Mod_result 59 rfl) f_Mod_65 ob_MO rfl (mr_ints hX) ?_
      refine g_aload_n (pc := 169) (dd d_Mod_result_1 0 rfl) rfl ?_
      refine g_geti (pc := 170) (dd d_Mod_result_1 1 rfl) f_Mod_507 ob_MO rfl ?_
      obtain ⟨c6, h⟩ := chk_e h
      refine g_iald (pc := 173) (dd d_Mod_result_1 2 rfl) ar_A_ints c6 ?_
      cases h
      exact g_iret (pc := 174) rfl (dd d_Mod_result_1 3 rfl) hT
    · obtain rfl : off = 165 := (Option.some.inj ho).symm
      refine ⟨189, by decide, ?_⟩
      replace w3 : (I MO 75 : Int32) = 12 := Int32.toInt_inj.mp w3
      replace h := ite_f h (by rw [w3]; decide)
      replace h := ite_f h (by rw [w3]; decide)
      replace h := ite_f h (by rw [w3]; decide)
      replace h := ite_f h (by rw [w3]; decide)
      replace h := ite_f h (by rw [w3]; decide)
      replace h := ite_f h (by rw [w3]; decide)
      replace h := ite_f h (by rw [w3]; decide)
      replace h := ite_f h (by rw [w3]; decide)
      replace h := ite_f h (by rw [w3]; decide)
      replace h := ite_f h (by rw [w3]; decide)
      replace h := ite_f h (by rw [w3]; decide)
      replace h := ite_t h w3
      refine g_drop [1, 2] ?_
      exact gb_Mod_result_189 hX hk hT  h
    · obtain rfl : off = 165 := (Option.some.inj ho).symm
      refine ⟨189, by decide, ?_⟩
      replace w3 : (I MO 75 : Int32) = 13 := Int32.toInt_inj.mp w3
      replace h := ite_f h (by rw [w3]; decide)
      replace h := ite_f h (by rw [w3]; decide)
      replace h := ite_f h (by rw [w3]; decide)
      replace h := ite_f h (by rw [w3]; decide)
      replace h := ite_f h (by rw [w3]; decide)
      replace h := ite_f h (by rw [w3]; decide)
      replace h := ite_f h (by rw [w3]; decide)
      replace h := ite_f h (by rw [w3]; decide)
      replace h := ite_f h (by rw [w3]; decide)
      replace h := ite_f h (by rw [w3]; decide)
      replace h := ite_f h (by rw [w3]; decide)
      replace h := ite_f h (by rw [w3]; decide)
      replace h := ite_t h w3
      refine g_drop [1, 2] ?_
      exact gb_Mod_result_189 hX hk hT  h
    · obtain rfl : off = 165 := (Option.some.inj ho).symm
      refine ⟨189, by decide, ?_⟩
      replace w3 : (I MO 75 : Int32) = 14 := Int32.toInt_inj.mp w3
      replace h := ite_f h (by rw [w3]; decide)
      replace h := ite_f h (by rw [w3]; decide)
      replace h := ite_f h (by rw [w3]; decide)
      replace h := ite_f h (by rw [w3]; decide)
      replace h := ite_f h (by rw [w3]; decide)
      replace h := ite_f h (by rw [w3]; decide)
      replace h := ite_f h (by rw [w3]; decide)
      replace h := ite_f h (by rw [w3]; decide)
      replace h := ite_f h (by rw [w3]; decide)
      replace h := ite_f h (by rw [w3]; decide)
      replace h := ite_f h (by rw [w3]; decide)
      replace h := ite_f h (by rw [w3]; decide)
      replace h := ite_f h (by rw [w3]; decide)
      replace h := ite_t h w3
      refine g_drop [1, 2] ?_
      exact gb_Mod_result_189 hX hk hT  h
    · obtain rfl : off = 165 := (Option.some.inj ho).symm
      refine ⟨189, by decide, ?_⟩
      replace w3 : (I MO 75 : Int32) = 15 := Int32.toInt_inj.mp w3
      replace h := ite_f h (by rw [w3]; decide)
      replace h := ite_f h (by rw [w3]; decide)
      replace h := ite_f h (by rw [w3]; decide)
      replace h := ite_f h (by rw [w3]; decide)
      replace h := ite_f h (by rw [w3]; decide)
      replace h := ite_f h (by rw [w3]; decide)
      replace h := ite_f h (by rw [w3]; decide)
      replace h := ite_f h (by rw [w3]; decide)
      replace h := ite_f h (by rw [w3]; decide)
      replace h := ite_f h (by rw [w3]; decide)
      replace h := ite_f h (by rw [w3]; decide)
      replace h := ite_f h (by rw [w3]; decide)
      replace h := ite_f h (by rw [w3]; decide)
      replace h := ite_f h (by rw [w3]; decide)
      replace h := ite_t h w3
      refine g_drop [1, 2] ?_
      exact gb_Mod_result_189 hX hk hT  h
    · obtain rfl : off = 151 := (Option.some.inj ho).symm
      refine ⟨175, by decide, ?_⟩
      replace w3 : (I MO 75 : Int32) = 16 := Int32.toInt_inj.mp w3
      replace h := ite_f h (by rw [w3]; decide)
      replace h := ite_f h (by rw [w3]; decide)
      replace h := ite_f h (by rw [w3]; decide)
      replace h := ite_f h (by rw [w3]; decide)
      replace h := ite_f h (by rw [w3]; decide)
      replace h := ite_f h (by rw [w3]; decide)
      replace h := ite_f h (by rw [w3]; decide)
      replace h := ite_f h (by rw [w3]; decide)
      replace h := ite_f h (by rw [w3]; decide)
      replace h := ite_f h (by rw [w3]; decide)
      replace h := ite_f h (by rw [w3]; decide)
      replace h := ite_f h (by rw [w3]; decide)
      replace h := ite_f h (by rw [w3]; decide)
      replace h := ite_f h (by rw [w3]; decide)
      replace h := ite_f h (by rw [w3]; decide)
      replace h := ite_t h w3
      refine g_aload_n (pc := 175) (dd d_Mod_result_1 4 rfl) rfl ?_
      refine g_geti (pc := 176) (dd d_Mod_result_1 5 rfl) f_Mod_391 ob_MO rfl ?_
      refine g_iconst (pc := 179) (v := 1) (dd d_Mod_result_1 6 rfl) (by decide) ?_
      refine g_iadd (pc := 180) (dd d_Mod_result_1 7 rfl) ?_
      cases h
      exact g_iret (pc := 181) rfl (dd d_Mod_result_1 8 rfl) hT
    · obtain rfl : off = 165 := (Option.some.inj ho).symm
      refine ⟨189, by decide, ?_⟩
      replace w3 : (I MO 75 : Int32) = 17 := Int32.toInt_inj.mp w3
      replace h := ite_f h (by rw [w3]; decide)
      replace h := ite_f h (by rw [w3]; decide)
      replace h := ite_f h (by rw [w3]; decide)
      replace h := ite_f h (by rw [w3]; decide)
      replace h := ite_f h (by rw [w3]; decide)
      replace h := ite_f h (by rw [w3]; decide)
      replace h := ite_f h (by rw [w3]; decide)
      replace h := ite_f h (by rw [w3]; decide)
      replace h := ite_f h (by rw [w3]; decide)
      replace h := ite_f h (by rw [w3]; decide)
      replace h := ite_f h (by rw [w3]; decide)
      replace h := ite_f h (by rw [w3]; decide)
      replace h := ite_f h (by rw [w3]; decide)
      replace h := ite_f h (by rw [w3]; decide)
      replace h := ite_f h (by rw [w3]; decide)
      replace h := ite_f h (by rw [w3]; decide)
      replace h := ite_t h w3
      refine g_drop [1, 2] ?_
      exact gb_Mod_result_189 hX hk hT  h
    · obtain rfl : off = 158 := (Option.some.inj ho).symm
      refine ⟨182, by decide, ?_⟩
      replace w3 : (I MO 75 : Int32) = 18 := Int32.toInt_inj.mp w3
      replace h := ite_f h (by rw [w3]; decide)
      replace h := ite_f h (by rw [w3]; decide)
      replace h := ite_f h (by rw [w3]; decide)
      replace h := ite_f h (by rw [w3]; decide)
      replace h := ite_f h (by rw [w3]; decide)
      replace h := ite_f h (by rw [w3]; decide)
      replace h := ite_f h (by rw [w3]; decide)
      replace h := ite_f h (by rw [w3]; decide)
      replace h := ite_f h (by rw [w3]; decide)
      replace h := ite_f h (by rw [w3]; decide)
      replace h := ite_f h (by rw [w3]; decide)
      replace h := ite_f h (by rw [w3]; decide)
      replace h := ite_f h (by rw [w3]; decide)
      replace h := ite_f h (by rw [w3]; decide)
      replace h := ite_f h (by rw [w3]; decide)
      replace h := ite_f h (by rw [w3]; decide)
      replace h := ite_f h (by rw [w3]; decide)
      replace h := ite_t h w3
      refine g_aload_n (pc := 182) (dd d_Mod_result_1 9 rfl) rfl ?_
      refine g_getr (pc := 183) (dd d_Mod_result_1 10 rfl) f_Mod_80 ob_MO rfl (mr_inputValues hX) ?_
      refine g_iconst (pc := 186) (v := 0) (dd d_Mod_result_1 11 rfl) (by decide) ?_
      refine g_iald (pc := 187) (dd d_Mod_result_1 12 rfl) ar_A_inputValues (by rw [vp_in_iff]; decide) ?_
      cases h
      exact g_iret (pc := 188) rfl (dd d_Mod_result_1 13 rfl) hT
    · cases ho
  · skip
    replace w3 : ((I MO 75 : Int32)).toInt < 1 ∨ 18 < ((I MO 75 : Int32)).toInt := w3
    replace h := ite_f h (fun e => by rw [e] at w3; revert w3; decide)
    replace h := ite_f h (fun e => by rw [e] at w3; revert w3; decide)
    replace h := ite_f h (fun e => by rw [e] at w3; revert w3; decide)
    replace h := ite_f h (fun e => by rw [e] at w3; revert w3; decide)
    replace h := ite_f h (fun e => by rw [e] at w3; revert w3; decide)
    replace h := ite_f h (fun e => by rw [e] at w3; revert w3; decide)
    replace h := ite_f h (fun e => by rw [e] at w3; revert w3; decide)
    replace h := ite_f h (fun e => by rw [e] at w3; revert w3; decide)
    replace h := ite_f h (fun e => by rw [e] at w3; revert w3; decide)
    replace h := ite_f h (fun e => by rw [e] at w3; revert w3; decide)
    replace h := ite_f h (fun e => by rw [e] at w3; revert w3; decide)
    replace h := ite_f h (fun e => by rw [e] at w3; revert w3; decide)
    replace h := ite_f h (fun e => by rw [e] at w3; revert w3; decide)
    replace h := ite_f h (fun e => by rw [e] at w3; revert w3; decide)
    replace h := ite_f h (fun e => by rw [e] at w3; revert w3; decide)
    replace h := ite_f h (fun e => by rw [e] at w3; revert w3; decide)
    replace h := ite_f h (fun e => by rw [e] at w3; revert w3; decide)
    replace h := ite_f h (fun e => by rw [e] at w3; revert w3; decide)
    refine g_drop [1, 2] ?_
    exact gb_Mod_result_189 hX hk hT  h
def b_Mod_freeWords_45 (n : Nat) (I : IM) (H7 : Int32 → Int32 → Int32 → Option (Int32)) (H17 : Int32 → Int32 → Int32 → Int32 → Int32 → Option (Int32)) (x1 : Int32) (x2 : Int32) (x3 : Int32) (x5 : Int32) (y0 : Int32) : Option (Int32) := H17 x1 x2 x3 y0 (x5 + 1)
set_option maxRecDepth 20000 in
set_option maxHeartbeats 4000000 in
theorem gb_Mod_freeWords_45 {Δ : Dx} {X : Lx} (hX : MX Δ X)   {n : Nat} {I : IM} {Γ : Cx} (hk : Γ.k = 0) {r : Int32} (hT : Tg Δ Γ (some (.int r)) NN (I, X) 0 0) {H7 : Int32 → Int32 → Int32 → Option (Int32)} (hH7 : ∀ (x1 : Int32) (x2 : Int32) (x3 : Int32), H7 x1 x2 x3 = some r → GG Δ m_Mod_freeWords Γ NN 0 0 (I, X) 7 [some (.ref (Δ.ba + MO)), some (.int (x1)), some (.int (x2)), some (.int (x3)), none, none] []) {H17 : Int32 → Int32 → Int32 → Int32 → Int32 → Option (Int32)} (hH17 : ∀ (x1 : Int32) (x2 : Int32) (x3 : Int32) (x4 : Int32) (x5 : Int32), H17 x1 x2 x3 x4 x5 = some r → GG Δ m_Mod_freeWords Γ NN 0 0 (I, X) 17 [some (.ref (Δ.ba + MO)), some (.int (x1)), some (.int (x2)), some (.int (x3)), some (.int (x4)), some (.int (x5))] []) {x1 : Int32} {x2 : Int32} {x3 : Int32} {x5 : Int32} {y0 : Int32} (h : b_Mod_freeWords_45 n I H7 H17 x1 x2 x3 x5 y0 = some r) : GG Δ m_Mod_freeWords Γ NN 0 0 (I, X) 45 [some (.ref (Δ.ba + MO)), some (.int (x1)), some (.int (x2)), some (.int (x3)), none, some (.int (x5))] [.int (y0)] := by
  unfold b_Mod_freeWords_45 at h
  refine g_istore (pc := 45) (dd d_Mod_freeWords 27 rfl) (by decide) ?_
  refine g_iincW (pc := 47) (w := 1) (dd d_Mod_freeWords 28 rfl) rfl (by decide) (by decide) ?_
  refine g_goto (pc := 50) (tgt := 17) (dd d_Mod_freeWords 29 rfl) (by decide) ?_
  exact hH17 _ _ _ _ _ h
def b_Mod_freeWords_44 (n : Nat) (I : IM) (H7 : Int32 → Int32 → Int32 → Option (Int32)) (H17 : Int32 → Int32 → Int32 → Int32 → Int32 → Option (Int32)) (x1 : Int32) (x2 : Int32) (x3 : Int32) (x5 : Int32) : Option (Int32) := b_Mod_freeWords_45 n I H7 H17 x1 x2 x3 x5 0
set_option maxRecDepth 20000 in
set_option maxHeartbeats 4000000 in
theorem gb_Mod_freeWords_44 {Δ : Dx} {X : Lx} (hX : MX Δ X)   {n : Nat} {I : IM} {Γ : Cx} (hk : Γ.k = 0) {r : Int32} (hT : Tg Δ Γ (some (.int r)) NN (I, X) 0 0) {H7 : Int32 → Int32 → Int32 → Option (Int32)} (hH7 : ∀ (x1 : Int32) (x2 : Int32) (x3 : Int32), H7 x1 x2 x3 = some r → GG Δ m_Mod_freeWords Γ NN 0 0 (I, X) 7 [some (.ref (Δ.ba + MO)), some (.int (x1)), some (.int (x2)), some (.int (x3)), none, none] []) {H17 : Int32 → Int32 → Int32 → Int32 → Int32 → Option (Int32)} (hH17 : ∀ (x1 : Int32) (x2 : Int32) (x3 : Int32) (x4 : Int32) (x5 : Int32), H17 x1 x2 x3 x4 x5 = some r → GG Δ m_Mod_freeWords Γ NN 0 0 (I, X) 17 [some (.ref (Δ.ba + MO)), some (.int (x1)), some (.int (x2)), some (.int (x3)), some (.int (x4)), some (.int (x5))] []) {x1 : Int32} {x2 : Int32} {x3 : Int32} {x5 : Int32} (h : b_Mod_freeWords_44 n I H7 H17 x1 x2 x3 x5 = some r) : GG Δ m_Mod_freeWords Γ NN 0 0 (I, X) 44 [some (.ref (Δ.ba + MO)), some (.int (x1)), some (.int (x2)), some (.int (x3)), none, some (.int (x5))] [] := by
  unfold b_Mod_freeWords_44 at h
  refine g_iconst (pc := 44) (v := 0) (dd d_Mod_freeWords 26 rfl) (by decide) ?_
  exact gb_Mod_freeWords_45 hX hk hT hH7 hH17 h
def l_Mod_freeWords_17 (n : Nat) (I : IM) (H7 : Int32 → Int32 → Int32 → Option (Int32)) : Nat → Int32 → Int32 → Int32 → Int32 → Int32 → Option (Int32)
  | 0, _, _, _, _, _ => none
  | f + 1, x1, x2, x3, x4, x5 => if (x3 + x1 : Int32) ≤ x5 then (H7 x1 (if x4 = 0 then x2 else x3) (x3 + (-1))) else (if x4 = 0 then (b_Mod_freeWords_44 n I H7 (l_Mod_freeWords_17 n I H7 f) x1 x2 x3 x5) else (chk (inb x5 96) <| (l_Mod_freeWords_17 n I H7 f) x1 x2 x3 (if (I A_owners x5.toNatClampNeg : Int32) = 0 then 1 else 0) (x5 + 1)))
set_option maxRecDepth 20000 in
set_option maxHeartbeats 4000000 in
theorem gl_Mod_freeWords_17 {Δ : Dx} {X : Lx} (hX : MX Δ X)   {n : Nat} {I : IM} {Γ : Cx} (hk : Γ.k = 0) {r : Int32} (hT : Tg Δ Γ (some (.int r)) NN (I, X) 0 0) {H7 : Int32 → Int32 → Int32 → Option (Int32)} (hH7 : ∀ (x1 : Int32) (x2 : Int32) (x3 : Int32), H7 x1 x2 x3 = some r → GG Δ m_Mod_freeWords Γ NN 0 0 (I, X) 7 [some (.ref (Δ.ba + MO)), some (.int (x1)), some (.int (x2)), some (.int (x3)), none, none] []) : ∀ (f : Nat) (x1 : Int32) (x2 : Int32) (x3 : Int32) (x4 : Int32) (x5 : Int32), l_Mod_freeWords_17 n I H7 f x1 x2 x3 x4 x5 = some r → GG Δ m_Mod_freeWords Γ NN 0 0 (I, X) 17 [some (.ref (Δ.ba + MO)), some (.int (x1)), some (.int (x2)), some (.int (x3)), some (.int (x4)), some (.int (x5))] []
  | 0, _, _, _, _, _, h => by cases h
  | f + 1, x1, x2, x3, x4, x5, h => by
    have ih := gl_Mod_freeWords_17 (n := n) hX hk hT hH7 f
    rw [l_Mod_freeWords_17] at h
    refine g_iload (pc := 17) (dd d_Mod_freeWords 12 rfl) rfl ?_
    refine g_iload_n (pc := 19) (dd d_Mod_freeWords 13 rfl) rfl ?_
    refine g_iload_n (pc := 20) (dd d_Mod_freeWords 14 rfl) rfl ?_
    refine g_iadd (pc := 21) (dd d_Mod_freeWords 15 rfl) ?_
    refine g_icmpge (pc := 22) (tgt := 53) (dd d_Mod_freeWords 16 rfl) (by decide) (fun q2 => ?_) (fun q2 => ?_)
    · replace h := ite_t h q2
      refine g_iload (pc := 53) (dd d_Mod_freeWords 30 rfl) rfl ?_
      suffices K55 : ∀ z : Int32, z = (if x4 = 0 then x2 else x3 : Int32) → GG Δ m_Mod_freeWords Γ NN 0 0 (I, X) 63 [some (.ref (Δ.ba + MO)), some (.int (x1)), some (.int (x2)), some (.int (x3)), some (.int (x4)), some (.int (x5))] [.int (z)] by
        refine g_ifeq (pc := 55) (tgt := 62) (dd d_Mod_freeWords 31 rfl) (by decide) (fun q3 => ?_) (fun q3 => ?_)
        · skip
          refine g_iload_n (pc := 62) (dd d_Mod_freeWords 34 rfl) rfl ?_
          exact K55 _ (by rw [if_pos q3])
        · skip
          refine g_iload_n (pc := 58) (dd d_Mod_freeWords 32 rfl) rfl ?_
          refine g_goto (pc := 59) (tgt := 63) (dd d_Mod_freeWords 33 rfl) (by decide) ?_
          exact K55 _ (by rw [if_neg q3])
      intro z hz
      subst hz
      refine g_istore_n (pc := 63) (dd d_Mod_freeWords 35 rfl) (by decide) ?_
      refine g_iincW (pc := 64) (w := (-1)) (dd d_Mod_freeWords 36 rfl) rfl (by decide) (by decide) ?_
      refine g_goto (pc := 67) (tgt := 7) (dd d_Mod_freeWords 37 rfl) (by decide) ?_
      refine g_drop [4, 5] ?_
      exact hH7 _ _ _ h
    · replace h := ite_f h q2
      refine g_iload (pc := 25) (dd d_Mod_freeWords 17 rfl) rfl ?_
      refine g_ifeq (pc := 27) (tgt := 44) (dd d_Mod_freeWords 18 rfl) (by decide) (fun q4 => ?_) (fun q4 => ?_)
      · replace h := ite_t h q4
        refine g_drop [4] ?_
        exact gb_Mod_freeWords_44 hX hk hT hH7 ih h
      · replace h := ite_f h q4
        refine g_aload_n (pc := 30) (dd d_Mod_freeWords 19 rfl) rfl ?_
        refine g_getr (pc := 31) (dd d_Mod_freeWords 20 rfl) f_Mod_71 ob_MO rfl (mr_owners hX) ?_
        refine g_iload (pc := 34) (dd d_Mod_freeWords 21 rfl) rfl ?_
        obtain ⟨c5, h⟩ := chk_e h
        refine g_iald (pc := 36) (dd d_Mod_freeWords 22 rfl) ar_A_owners c5 ?_
        suffices K37 : ∀ z : Int32, z = (if (I A_owners x5.toNatClampNeg : Int32) = 0 then 1 else 0 : Int32) → GG Δ m_Mod_freeWords Γ NN 0 0 (I, X) 45 [some (.ref (Δ.ba + MO)), some (.int (x1)), some (.int (x2)), some (.int (x3)), some (.int (x4)), some (.int (x5))] [.int (z)] by
          refine g_ifne (pc := 37) (tgt := 44) (dd d_Mod_freeWords 23 rfl) (by decide) (fun q6 => ?_) (fun q6 => ?_)
          · skip
            refine g_iconst (pc := 44) (v := 0) (dd d_Mod_freeWords 26 rfl) (by decide) ?_
            exact K37 _ (by rw [if_neg q6])
          · skip
            refine g_iconst (pc := 40) (v := 1) (dd d_Mod_freeWords 24 rfl) (by decide) ?_
            refine g_goto (pc := 41) (tgt := 45) (dd d_Mod_freeWords 25 rfl) (by decide) ?_
            exact K37 _ (by rw [if_pos q6])
        intro z hz
        subst hz
        refine g_istore (pc := 45) (dd d_Mod_freeWords 27 rfl) (by decide) ?_
        refine g_iincW (pc := 47) (w := 1) (dd d_Mod_freeWords 28 rfl) rfl (by decide) (by decide) ?_
        refine g_goto (pc := 50) (tgt := 17) (dd d_Mod_freeWords 29 rfl) (by decide) ?_
        exact ih _ _ _ _ _ h
def l_Mod_freeWords_7 (n : Nat) (I : IM)  : Nat → Int32 → Int32 → Int32 → Option (Int32)
  | 0, _, _, _ => none
  | f + 1, x1, x2, x3 => if x3 < 0 then (some (x2)) else (l_Mod_freeWords_17 n I (l_Mod_freeWords_7 n I  f) n x1 x2 x3 1 x3)
set_option maxRecDepth 20000 in
set_option maxHeartbeats 4000000 in
theorem gl_Mod_freeWords_7 {Δ : Dx} {X : Lx} (hX : MX Δ X)   {n : Nat} {I : IM} {Γ : Cx} (hk : Γ.k = 0) {r : Int32} (hT : Tg Δ Γ (some (.int r)) NN (I, X) 0 0)  : ∀ (f : Nat) (x1 : Int32) (x2 : Int32) (x3 : Int32), l_Mod_freeWords_7 n I  f x1 x2 x3 = some r → GG Δ m_Mod_freeWords Γ NN 0 0 (I, X) 7 [some (.ref (Δ.ba + MO)), some (.int (x1)), some (.int (x2)), some (.int (x3)), none, none] []
  | 0, _, _, _, h => by cases h
  | f + 1, x1, x2, x3, h => by
    have ih := gl_Mod_freeWords_7 (n := n) hX hk hT  f
    rw [l_Mod_freeWords_7] at h
    refine g_iload_n (pc := 7) (dd d_Mod_freeWords 6 rfl) rfl ?_
    refine g_iflt (pc := 8) (tgt := 70) (dd d_Mod_freeWords 7 rfl) (by decide) (fun q1 => ?_) (fun q1 => ?_)
    · replace h := ite_t h q1
      refine g_iload_n (pc := 70) (dd d_Mod_freeWords 38 rfl) rfl ?_
      cases h
      exact g_iret (pc := 71) rfl (dd d_Mod_freeWords 39 rfl) hT
    · replace h := ite_f h q1
      refine g_iconst (pc := 11) (v := 1) (dd d_Mod_freeWords 8 rfl) (by decide) ?_
      refine g_istore (pc := 12) (dd d_Mod_freeWords 9 rfl) (by decide) ?_
      refine g_iload_n (pc := 14) (dd d_Mod_freeWords 10 rfl) rfl ?_
      refine g_istore (pc := 15) (dd d_Mod_freeWords 11 rfl) (by decide) ?_
      exact gl_Mod_freeWords_17 hX hk hT ih _ _ _ _ _ _ h
def f_Mod_freeWords (n : Nat) (x1 : Int32) (I : IM) : Option (Int32) := l_Mod_freeWords_7 n I  n x1 (-1) (96 - x1)
set_option maxRecDepth 20000 in
set_option maxHeartbeats 4000000 in
theorem ef_Mod_freeWords {Δ : Dx} {X : Lx} (hX : MX Δ X) {n : Nat} {x1 : Int32}  {I : IM}  {r : Int32} (h : f_Mod_freeWords n x1 I = some r) : Ev Δ 0 m_Mod_freeWords [.ref (Δ.ba + MO), .int x1] (I, X) (some (.int r)) (I, X) := by
  refine ev_of (by decide) (Nat.le_of_ble_eq_true rfl) (fun Γ hk hR hT => ?_)
  change GG Δ m_Mod_freeWords Γ NN 0 0 (I, X) 0 [some (.ref (Δ.ba + MO)), some (.int (x1)), none, none, none, none] []
  unfold f_Mod_freeWords at h
  refine g_iconst (pc := 0) (v := (-1)) (dd d_Mod_freeWords 0 rfl) (by decide) ?_
  refine g_istore_n (pc := 1) (dd d_Mod_freeWords 1 rfl) (by decide) ?_
  refine g_bipush (pc := 2) (v := 96) (dd d_Mod_freeWords 2 rfl) (by decide) ?_
  refine g_iload_n (pc := 4) (dd d_Mod_freeWords 3 rfl) rfl ?_
  refine g_isub (pc := 5) (dd d_Mod_freeWords 4 rfl) ?_
  refine g_istore_n (pc := 6) (dd d_Mod_freeWords 5 rfl) (by decide) ?_
  exact gl_Mod_freeWords_7 hX hk hT  _ _ _ _ h
def l_Mod_make_38 (n : Nat)  : Nat → Int32 → Int32 → Int32 → IM → Option (Int32 × IM)
  | 0, _, _, _, _ => none
  | f + 1, x1, x2, x3, I => if (x2 + x1 : Int32) ≤ x3 then (chk (inb (I MO 76) 8) <| lt (up I A_registers (I MO 76 : Int32).toNatClampNeg (x2)) fun I10 => chk (inb (I10 MO 76) 8) <| lt (up I10 A_registerTags (I10 MO 76 : Int32).toNatClampNeg (I10 MO 83)) fun I12 => lt (up I12 MO 52 ((I12 MO 52) + 1)) fun I13 => some (1, I13)) else (chk (inb x3 96) <| lt (up I A_owners x3.toNatClampNeg (I MO 85)) fun I15 => lt (up I15 A_ints x3.toNatClampNeg (0)) fun I16 => lt (up I16 A_held x3.toNatClampNeg (0)) fun I17 => (l_Mod_make_38 n  f) x1 x2 (x3 + 1) I17)
set_option maxRecDepth 20000 in
set_option maxHeartbeats 4000000 in
theorem gl_Mod_make_38 {Δ : Dx} {X : Lx} (hX : MX Δ X)   {n : Nat} {Γ : Cx} (hk : Γ.k = 1) {r : Int32 × IM} (hT : Tg Δ Γ (some (.int r.1)) NN (r.2, X) 0 0)  : ∀ (f : Nat) (x1 : Int32) (x2 : Int32) (x3 : Int32) (I : IM), l_Mod_make_38 n  f x1 x2 x3 I = some r → GG Δ m_Mod_make Γ NN 0 0 (I, X) 38 [some (.ref (Δ.ba + MO)), some (.int (x1)), some (.int (x2)), some (.int (x3))] []
  | 0, _, _, _, _, h => by cases h
  | f + 1, x1, x2, x3, I, h => by
    have ih := gl_Mod_make_38 (n := n) hX hk hT  f
    rw [l_Mod_make_38] at h
    refine g_iload_n (pc := 38) (dd d_Mod_make 23 rfl) rfl ?_
    refine g_iload_n (pc := 39) (dd d_Mod_make 24 rfl) rfl ?_
    refine g_iload_n (pc := 40) (dd d_Mod_make 25 rfl) rfl ?_
    refine g_iadd (pc := 41) (dd d_Mod_make 26 rfl) ?_
    refine g_icmpge (pc := 42) (tgt := 75) (dd d_Mod_make 27 rfl) (by decide) (fun q8 => ?_) (fun q8 => ?_)
    · replace h := ite_t h q8
      refine g_aload_n (pc := 75) (dd d_Mod_make 46 rfl) rfl ?_
      refine g_getr (pc := 76) (dd d_Mod_make 47 rfl) f_Mod_74 ob_MO rfl (mr_registers hX) ?_
      refine g_aload_n (pc := 79) (dd d_Mod_make 48 rfl) rfl ?_
      refine g_geti (pc := 80) (dd d_Mod_make 49 rfl) f_Mod_495 ob_MO rfl ?_
      refine g_iload_n (pc := 83) (dd d_Mod_make 50 rfl) rfl ?_
      obtain ⟨c9, h⟩ := chk_e h
      refine g_iastN (pc := 84) (dd d_Mod_make 51 rfl) ar_A_registers c9 (fun I10 hI10 => ?_)
      replace h := lt_e h hI10
      refine g_aload_n (pc := 85) (dd d_Mod_make 52 rfl) rfl ?_
      refine g_getr (pc := 86) (dd d_Mod_make 53 rfl) f_Mod_77 ob_MO rfl (mr_registerTags hX) ?_
      refine g_aload_n (pc := 89) (dd d_Mod_make 54 rfl) rfl ?_
      refine g_geti (pc := 90) (dd d_Mod_make 55 rfl) f_Mod_495 ob_MO rfl ?_
      refine g_aload_n (pc := 93) (dd d_Mod_make 56 rfl) rfl ?_
      refine g_geti (pc := 94) (dd d_Mod_make 57 rfl) f_Mod_546 ob_MO rfl ?_
      obtain ⟨c11, h⟩ := chk_e h
      refine g_iastN (pc := 97) (dd d_Mod_make 58 rfl) ar_A_registerTags c11 (fun I12 hI12 => ?_)
      replace h := lt_e h hI12
      refine g_aload_n (pc := 98) (dd d_Mod_make 59 rfl) rfl ?_
      refine g_dup (pc := 99) (dd d_Mod_make_1 0 rfl) rfl ?_
      refine g_geti (pc := 100) (dd d_Mod_make_1 1 rfl) f_Mod_412 ob_MO rfl ?_
      refine g_iconst (pc := 103) (v := 1) (dd d_Mod_make_1 2 rfl) (by decide) ?_
      refine g_iadd (pc := 104) (dd d_Mod_make_1 3 rfl) ?_
      refine g_putiN (pc := 105) (dd d_Mod_make_1 4 rfl) f_Mod_412 fm_Mod_52 ob_MO rfl (fun I13 hI13 => ?_)
      replace h := lt_e h hI13
      refine g_iconst (pc := 108) (v := 1) (dd d_Mod_make_1 5 rfl) (by decide) ?_
      cases h
      exact g_zret (pc := 109) rfl (by decide) (dd d_Mod_make_1 6 rfl) hT
    · replace h := ite_f h q8
      refine g_aload_n (pc := 45) (dd d_Mod_make 28 rfl) rfl ?_
      refine g_getr (pc := 46) (dd d_Mod_make 29 rfl) f_Mod_71 ob_MO rfl (mr_owners hX) ?_
      refine g_iload_n (pc := 49) (dd d_Mod_make 30 rfl) rfl ?_
      refine g_aload_n (pc := 50) (dd d_Mod_make 31 rfl) rfl ?_
      refine g_geti (pc := 51) (dd d_Mod_make 32 rfl) f_Mod_552 ob_MO rfl ?_
      obtain ⟨c14, h⟩ := chk_e h
      refine g_iastN (pc := 54) (dd d_Mod_make 33 rfl) ar_A_owners c14 (fun I15 hI15 => ?_)
      replace h := lt_e h hI15
      refine g_aload_n (pc := 55) (dd d_Mod_make 34 rfl) rfl ?_
      refine g_getr (pc := 56) (dd d_Mod_make 35 rfl) f_Mod_65 ob_MO rfl (mr_ints hX) ?_
      refine g_iload_n (pc := 59) (dd d_Mod_make 36 rfl) rfl ?_
      refine g_iconst (pc := 60) (v := 0) (dd d_Mod_make 37 rfl) (by decide) ?_
      refine g_iastN (pc := 61) (dd d_Mod_make 38 rfl) ar_A_ints c14 (fun I16 hI16 => ?_)
      replace h := lt_e h hI16
      refine g_aload_n (pc := 62) (dd d_Mod_make 39 rfl) rfl ?_
      refine g_getr (pc := 63) (dd d_Mod_make 40 rfl) f_Mod_68 ob_MO rfl (mr_held hX) ?_
      refine g_iload_n (pc := 66) (dd d_Mod_make 41 rfl) rfl ?_
      refine g_iconst (pc := 67) (v := 0) (dd d_Mod_make 42 rfl) (by decide) ?_
      refine g_iastN (pc := 68) (dd d_Mod_make 43 rfl) ar_A_held c14 (fun I17 hI17 => ?_)
      replace h := lt_e h hI17
      refine g_iincW (pc := 69) (w := 1) (dd d_Mod_make 44 rfl) rfl (by decide) (by decide) ?_
      refine g_goto (pc := 72) (tgt := 38) (dd d_Mod_make 45 rfl) (by decide) ?_
      exact ih _ _ _ _ h
def b_Mod_make_29 (n : Nat)  (x1 : Int32) (y0 : Int32) (I : IM) : Option (Int32 × IM) := if 0 ≤ y0 then (l_Mod_make_38 n  n x1 y0 y0 I) else (some (0, I))
set_option maxRecDepth 20000 in
set_option maxHeartbeats 4000000 in
theorem gb_Mod_make_29 {Δ : Dx} {X : Lx} (hX : MX Δ X)   {n : Nat} {Γ : Cx} (hk : Γ.k = 1) {r : Int32 × IM} (hT : Tg Δ Γ (some (.int r.1)) NN (r.2, X) 0 0)  {x1 : Int32} {y0 : Int32} {I : IM} (h : b_Mod_make_29 n  x1 y0 I = some r) : GG Δ m_Mod_make Γ NN 0 0 (I, X) 29 [some (.ref (Δ.ba + MO)), some (.int (x1)), none, none] [.int (y0)] := by
  unfold b_Mod_make_29 at h
  refine g_istore_n (pc := 29) (dd d_Mod_make 16 rfl) (by decide) ?_
  refine g_iload_n (pc := 30) (dd d_Mod_make 17 rfl) rfl ?_
  refine g_ifge (pc := 31) (tgt := 36) (dd d_Mod_make 18 rfl) (by decide) (fun q7 => ?_) (fun q7 => ?_)
  · replace h := ite_t h q7
    refine g_iload_n (pc := 36) (dd d_Mod_make 21 rfl) rfl ?_
    refine g_istore_n (pc := 37) (dd d_Mod_make 22 rfl) (by decide) ?_
    exact gl_Mod_make_38 hX hk hT  _ _ _ _ _ h
  · replace h := ite_f h q7
    refine g_iconst (pc := 34) (v := 0) (dd d_Mod_make 19 rfl) (by decide) ?_
    cases h
    exact g_zret (pc := 35) rfl (by decide) (dd d_Mod_make 20 rfl) hT
def f_Mod_make (n : Nat) (I : IM) : Option (Int32 × IM) := chk (inb (I MO 77) 8) <| Option.bind (f_Mod_in  (I A_registers (I MO 77 : Int32).toNatClampNeg) 1 16 I) fun v2 => if v2 = 0 then (b_Mod_make_29 n  (I A_registers (I MO 77 : Int32).toNatClampNeg) (-1) I) else (Option.bind (f_Mod_freeWords n (I A_registers (I MO 77 : Int32).toNatClampNeg) I) fun v5 => b_Mod_make_29 n  (I A_registers (I MO 77 : Int32).toNatClampNeg) v5 I)
set_option maxRecDepth 20000 in
set_option maxHeartbeats 4000000 in
theorem ef_Mod_make {Δ : Dx} {X : Lx} (hX : MX Δ X) {n : Nat}  {I : IM}  {r : Int32 × IM} (h : f_Mod_make n I = some r) : Ev Δ 1 m_Mod_make [.ref (Δ.ba + MO)] (I, X) (some (.int r.1)) (r.2, X) := by
  refine ev_of (by decide) (Nat.le_of_ble_eq_true rfl) (fun Γ hk hR hT => ?_)
  change GG Δ m_Mod_make Γ NN 0 0 (I, X) 0 [some (.ref (Δ.ba + MO)), none, none, none] []
  unfold f_Mod_make at h
  refine g_aload_n (pc := 0) (dd d_Mod_make 0 rfl) rfl ?_
  refine g_getr (pc := 1) (dd d_Mod_make 1 rfl) f_Mod_74 ob_MO rfl (mr_registers hX) ?_
  refine g_aload_n (pc := 4) (dd d_Mod_make 2 rfl) rfl ?_
  refine g_geti (pc := 5) (dd d_Mod_make 3 rfl) f_Mod_498 ob_MO rfl ?_
  obtain ⟨c1, h⟩ := chk_e h
  refine g_iald (pc := 8) (dd d_Mod_make 4 rfl) ar_A_registers c1 ?_
  refine g_istore_n (pc := 9) (dd d_Mod_make 5 rfl) (by decide) ?_
  refine g_iload_n (pc := 10) (dd d_Mod_make 6 rfl) rfl ?_
  refine g_iconst (pc := 11) (v := 1) (dd d_Mod_make 7 rfl) (by decide) ?_
  refine g_bipush (pc := 12) (v := 16) (dd d_Mod_make 8 rfl) (by decide) ?_
  obtain ⟨v2, e3, h⟩ := bnd_e h
  refine g_callS (pc := 14) (dd d_Mod_make 9 rfl) s_Mod_243 (ef_Mod_in hX e3) rfl (by rw [hk]; decide) (Nat.le_of_ble_eq_true rfl) ⟨Nat.zero_le _, Nat.zero_le _⟩ rfl ?_
  refine g_ifeq (pc := 17) (tgt := 28) (dd d_Mod_make 10 rfl) (by decide) (fun q4 => ?_) (fun q4 => ?_)
  · replace h := ite_t h q4
    refine g_iconst (pc := 28) (v := (-1)) (dd d_Mod_make 15 rfl) (by decide) ?_
    exact gb_Mod_make_29 hX hk hT  h
  · replace h := ite_f h q4
    refine g_aload_n (pc := 20) (dd d_Mod_make 11 rfl) rfl ?_
    refine g_iload_n (pc := 21) (dd d_Mod_make 12 rfl) rfl ?_
    obtain ⟨v5, e6, h⟩ := bnd_e h
    refine g_callV (pc := 22) (dd d_Mod_make 13 rfl) v_Mod_568 ob_MO rfl (ef_Mod_freeWords hX e6) rfl (by rw [hk]; decide) (Nat.le_of_ble_eq_true rfl) ⟨Nat.zero_le _, Nat.zero_le _⟩ rfl ?_
    refine g_goto (pc := 25) (tgt := 29) (dd d_Mod_make 14 rfl) (by decide) ?_
    exact gb_Mod_make_29 hX hk hT  h
def l_Mod_takeInput_12 (n : Nat)  : Nat → Int32 → IM → Option (IM)
  | 0, _, _ => none
  | f + 1, x1, I => if (I MO 45 : Int32) ≤ x1 then (some I) else (chk (inb (x1 + 1) 16) <| chk (inb x1 16) <| lt (up I A_inputValues x1.toNatClampNeg (I A_inputValues (x1 + 1 : Int32).toNatClampNeg)) fun I5 => lt (up I5 A_inputTags x1.toNatClampNeg (I5 A_inputTags (x1 + 1 : Int32).toNatClampNeg)) fun I6 => (l_Mod_takeInput_12 n  f) (x1 + 1) I6)
set_option maxRecDepth 20000 in
set_option maxHeartbeats 4000000 in
theorem gl_Mod_takeInput_12 {Δ : Dx} {X : Lx} (hX : MX Δ X)   {n : Nat} {Γ : Cx} (hk : Γ.k = 0) {r : IM} (hT : Tg Δ Γ none NN (r, X) 0 0)  : ∀ (f : Nat) (x1 : Int32) (I : IM), l_Mod_takeInput_12 n  f x1 I = some r → GG Δ m_Mod_takeInput Γ NN 0 0 (I, X) 12 [some (.ref (Δ.ba + MO)), some (.int (x1))] []
  | 0, _, _, h => by cases h
  | f + 1, x1, I, h => by
    have ih := gl_Mod_takeInput_12 (n := n) hX hk hT  f
    rw [l_Mod_takeInput_12] at h
    refine g_iload_n (pc := 12) (dd d_Mod_takeInput 8 rfl) rfl ?_
    refine g_aload_n (pc := 13) (dd d_Mod_takeInput 9 rfl) rfl ?_
    refine g_geti (pc := 14) (dd d_Mod_takeInput 10 rfl) f_Mod_400 ob_MO rfl ?_
    refine g_icmpge (pc := 17) (tgt := 54) (dd d_Mod_takeInput 11 rfl) (by decide) (fun q2 => ?_) (fun q2 => ?_)
    · replace h := ite_t h q2
      cases h
      exact g_vret (pc := 54) rfl (dd d_Mod_takeInput 34 rfl) hT
    · replace h := ite_f h q2
      refine g_aload_n (pc := 20) (dd d_Mod_takeInput 12 rfl) rfl ?_
      refine g_getr (pc := 21) (dd d_Mod_takeInput 13 rfl) f_Mod_80 ob_MO rfl (mr_inputValues hX) ?_
      refine g_iload_n (pc := 24) (dd d_Mod_takeInput 14 rfl) rfl ?_
      refine g_aload_n (pc := 25) (dd d_Mod_takeInput 15 rfl) rfl ?_
      refine g_getr (pc := 26) (dd d_Mod_takeInput 16 rfl) f_Mod_80 ob_MO rfl (mr_inputValues hX) ?_
      refine g_iload_n (pc := 29) (dd d_Mod_takeInput 17 rfl) rfl ?_
      refine g_iconst (pc := 30) (v := 1) (dd d_Mod_takeInput 18 rfl) (by decide) ?_
      refine g_iadd (pc := 31) (dd d_Mod_takeInput 19 rfl) ?_
      obtain ⟨c3, h⟩ := chk_e h
      refine g_iald (pc := 32) (dd d_Mod_takeInput 20 rfl) ar_A_inputValues c3 ?_
      obtain ⟨c4, h⟩ := chk_e h
      refine g_iastN (pc := 33) (dd d_Mod_takeInput 21 rfl) ar_A_inputValues c4 (fun I5 hI5 => ?_)
      replace h := lt_e h hI5
      refine g_aload_n (pc := 34) (dd d_Mod_takeInput 22 rfl) rfl ?_
      refine g_getr (pc := 35) (dd d_Mod_takeInput 23 rfl) f_Mod_83 ob_MO rfl (mr_inputTags hX) ?_
      refine g_iload_n (pc := 38) (dd d_Mod_takeInput 24 rfl) rfl ?_
      refine g_aload_n (pc := 39) (dd d_Mod_takeInput 25 rfl) rfl ?_
      refine g_getr (pc := 40) (dd d_Mod_takeInput 26 rfl) f_Mod_83 ob_MO rfl (mr_inputTags hX) ?_
      refine g_iload_n (pc := 43) (dd d_Mod_takeInput 27 rfl) rfl ?_
      refine g_iconst (pc := 44) (v := 1) (dd d_Mod_takeInput 28 rfl) (by decide) ?_
      refine g_iadd (pc := 45) (dd d_Mod_takeInput 29 rfl) ?_
      refine g_iald (pc := 46) (dd d_Mod_takeInput 30 rfl) ar_A_inputTags c3 ?_
      refine g_iastN (pc := 47) (dd d_Mod_takeInput 31 rfl) ar_A_inputTags c4 (fun I6 hI6 => ?_)
      replace h := lt_e h hI6
      refine g_iincW (pc := 48) (w := 1) (dd d_Mod_takeInput 32 rfl) rfl (by decide) (by decide) ?_
      refine g_goto (pc := 51) (tgt := 12) (dd d_Mod_takeInput 33 rfl) (by decide) ?_
      exact ih _ _ h
def f_Mod_takeInput (n : Nat) (I : IM) : Option (IM) := lt (up I MO 45 ((I MO 45) - 1)) fun I1 => l_Mod_takeInput_12 n  n 0 I1
set_option maxRecDepth 20000 in
set_option maxHeartbeats 4000000 in
theorem ef_Mod_takeInput {Δ : Dx} {X : Lx} (hX : MX Δ X) {n : Nat}  {I : IM}  {r : IM} (h : f_Mod_takeInput n I = some r) : Ev Δ 0 m_Mod_takeInput [.ref (Δ.ba + MO)] (I, X) none (r, X) := by
  refine ev_of (by decide) (Nat.le_of_ble_eq_true rfl) (fun Γ hk hR hT => ?_)
  change GG Δ m_Mod_takeInput Γ NN 0 0 (I, X) 0 [some (.ref (Δ.ba + MO)), none] []
  unfold f_Mod_takeInput at h
  refine g_aload_n (pc := 0) (dd d_Mod_takeInput 0 rfl) rfl ?_
  refine g_dup (pc := 1) (dd d_Mod_takeInput 1 rfl) rfl ?_
  refine g_geti (pc := 2) (dd d_Mod_takeInput 2 rfl) f_Mod_400 ob_MO rfl ?_
  refine g_iconst (pc := 5) (v := 1) (dd d_Mod_takeInput 3 rfl) (by decide) ?_
  refine g_isub (pc := 6) (dd d_Mod_takeInput 4 rfl) ?_
  refine g_putiN (pc := 7) (dd d_Mod_takeInput 5 rfl) f_Mod_400 fm_Mod_45 ob_MO rfl (fun I1 hI1 => ?_)
  replace h := lt_e h hI1
  refine g_iconst (pc := 10) (v := 0) (dd d_Mod_takeInput 6 rfl) (by decide) ?_
  refine g_istore_n (pc := 11) (dd d_Mod_takeInput 7 rfl) (by decide) ?_
  exact gl_Mod_takeInput_12 hX hk hT  _ _ _ h
def b_Mod_perform_334 (n : Nat)  (x1 : Int32) (I : IM) : Option (Int32 × IM) := some (x1, I)
set_option maxRecDepth 20000 in
set_option maxHeartbeats 4000000 in
theorem gb_Mod_perform_334 {Δ : Dx} {X : Lx} (hX : MX Δ X)   {n : Nat} {Γ : Cx} (hk : Γ.k = 1) {r : Int32 × IM} (hT : Tg Δ Γ (some (.int r.1)) NN (r.2, X) 0 0)  {x1 : Int32} {I : IM} (h : b_Mod_perform_334 n  x1 I = some r) : GG Δ m_Mod_perform Γ NN 0 0 (I, X) 334 [none, some (.int (x1)), none] [] := by
  unfold b_Mod_perform_334 at h
  refine g_iload_n (pc := 334) (dd d_Mod_perform_2 50 rfl) rfl ?_
  cases h
  exact g_iret (pc := 335) rfl (dd d_Mod_perform_2 51 rfl) hT
def b_Mod_perform_183 (n : Nat)   (I : IM) : Option (Int32 × IM) := b_Mod_perform_334 n  (I MO 79) I
set_option maxRecDepth 20000 in
set_option maxHeartbeats 4000000 in
theorem gb_Mod_perform_183 {Δ : Dx} {X : Lx} (hX : MX Δ X)   {n : Nat} {Γ : Cx} (hk : Γ.k = 1) {r : Int32 × IM} (hT : Tg Δ Γ (some (.int r.1)) NN (r.2, X) 0 0)   {I : IM} (h : b_Mod_perform_183 n   I = some r) : GG Δ m_Mod_perform Γ NN 0 0 (I, X) 183 [some (.ref (Δ.ba + MO)), none, none] [] := by
  unfold b_Mod_perform_183 at h
  refine g_aload_n (pc := 183) (dd d_Mod_perform_1 32 rfl) rfl ?_
  refine g_geti (pc := 184) (dd d_Mod_perform_1 33 rfl) f_Mod_510 ob_MO rfl ?_
  refine g_istore_n (pc := 187) (dd d_Mod_perform_1 34 rfl) (by decide) ?_
  refine g_goto (pc := 188) (tgt := 334) (dd d_Mod_perform_1 35 rfl) (by decide) ?_
  refine g_drop [0] ?_
  exact gb_Mod_perform_334 hX hk hT  h
def b_Mod_perform_249 (n : Nat)  (x1 : Int32) (I : IM) : Option (Int32 × IM) := lt (up I MO 48 ((I MO 48) + 1)) fun I33 => b_Mod_perform_334 n  x1 I33
set_option maxRecDepth 20000 in
set_option maxHeartbeats 4000000 in
theorem gb_Mod_perform_249 {Δ : Dx} {X : Lx} (hX : MX Δ X)   {n : Nat} {Γ : Cx} (hk : Γ.k = 1) {r : Int32 × IM} (hT : Tg Δ Γ (some (.int r.1)) NN (r.2, X) 0 0)  {x1 : Int32} {I : IM} (h : b_Mod_perform_249 n  x1 I = some r) : GG Δ m_Mod_perform Γ NN 0 0 (I, X) 249 [some (.ref (Δ.ba + MO)), some (.int (x1)), none] [] := by
  unfold b_Mod_perform_249 at h
  refine g_aload_n (pc := 249) (dd d_Mod_perform_2 5 rfl) rfl ?_
  refine g_dup (pc := 250) (dd d_Mod_perform_2 6 rfl) rfl ?_
  refine g_geti (pc := 251) (dd d_Mod_perform_2 7 rfl) f_Mod_403 ob_MO rfl ?_
  refine g_iconst (pc := 254) (v := 1) (dd d_Mod_perform_2 8 rfl) (by decide) ?_
  refine g_iadd (pc := 255) (dd d_Mod_perform_2 9 rfl) ?_
  refine g_putiN (pc := 256) (dd d_Mod_perform_2 10 rfl) f_Mod_403 fm_Mod_48 ob_MO rfl (fun I33 hI33 => ?_)
  replace h := lt_e h hI33
  refine g_goto (pc := 259) (tgt := 334) (dd d_Mod_perform_2 11 rfl) (by decide) ?_
  refine g_drop [0] ?_
  exact gb_Mod_perform_334 hX hk hT  h
def b_Mod_perform_307 (n : Nat) (H273 : Int32 → Int32 → IM → Option (Int32 × IM)) (x1 : Int32) (x2 : Int32) (y2 : Int32) (y1 : Int32) (I : IM) : Option (Int32 × IM) := chk (inb y1 96) <| lt (up I A_owners y1.toNatClampNeg (y2)) fun I38 => H273 x1 (x2 + 1) I38
set_option maxRecDepth 20000 in
set_option maxHeartbeats 4000000 in
theorem gb_Mod_perform_307 {Δ : Dx} {X : Lx} (hX : MX Δ X)   {n : Nat} {Γ : Cx} (hk : Γ.k = 1) {r : Int32 × IM} (hT : Tg Δ Γ (some (.int r.1)) NN (r.2, X) 0 0) {H273 : Int32 → Int32 → IM → Option (Int32 × IM)} (hH273 : ∀ (x1 : Int32) (x2 : Int32) (I : IM), H273 x1 x2 I = some r → GG Δ m_Mod_perform Γ NN 0 0 (I, X) 273 [some (.ref (Δ.ba + MO)), some (.int (x1)), some (.int (x2))] []) {x1 : Int32} {x2 : Int32} {y2 : Int32} {y1 : Int32} {I : IM} (h : b_Mod_perform_307 n H273 x1 x2 y2 y1 I = some r) : GG Δ m_Mod_perform Γ NN 0 0 (I, X) 307 [some (.ref (Δ.ba + MO)), some (.int (x1)), some (.int (x2))] [.int (y2), .int (y1), .ref (Δ.ba + A_owners)] := by
  unfold b_Mod_perform_307 at h
  obtain ⟨c37, h⟩ := chk_e h
  refine g_iastN (pc := 307) (dd d_Mod_perform_2 37 rfl) ar_A_owners c37 (fun I38 hI38 => ?_)
  replace h := lt_e h hI38
  refine g_iincW (pc := 308) (w := 1) (dd d_Mod_perform_2 38 rfl) rfl (by decide) (by decide) ?_
  refine g_goto (pc := 311) (tgt := 273) (dd d_Mod_perform_2 39 rfl) (by decide) ?_
  exact hH273 _ _ _ h
def l_Mod_perform_273 (n : Nat)  : Nat → Int32 → Int32 → IM → Option (Int32 × IM)
  | 0, _, _, _ => none
  | f + 1, x1, x2, I => if (96 : Int32) ≤ x2 then (b_Mod_perform_334 n  x1 I) else (chk (inb x2 96) <| if (I A_owners x2.toNatClampNeg : Int32) = (I MO 85 : Int32) then (b_Mod_perform_307 n (l_Mod_perform_273 n  f) x1 x2 0 x2 I) else (b_Mod_perform_307 n (l_Mod_perform_273 n  f) x1 x2 (I A_owners x2.toNatClampNeg) x2 I))
set_option maxRecDepth 20000 in
set_option maxHeartbeats 4000000 in
theorem gl_Mod_perform_273 {Δ : Dx} {X : Lx} (hX : MX Δ X)   {n : Nat} {Γ : Cx} (hk : Γ.k = 1) {r : Int32 × IM} (hT : Tg Δ Γ (some (.int r.1)) NN (r.2, X) 0 0)  : ∀ (f : Nat) (x1 : Int32) (x2 : Int32) (I : IM), l_Mod_perform_273 n  f x1 x2 I = some r → GG Δ m_Mod_perform Γ NN 0 0 (I, X) 273 [some (.ref (Δ.ba + MO)), some (.int (x1)), some (.int (x2))] []
  | 0, _, _, _, h => by cases h
  | f + 1, x1, x2, I, h => by
    have ih := gl_Mod_perform_273 (n := n) hX hk hT  f
    rw [l_Mod_perform_273] at h
    refine g_iload_n (pc := 273) (dd d_Mod_perform_2 18 rfl) rfl ?_
    refine g_bipush (pc := 274) (v := 96) (dd d_Mod_perform_2 19 rfl) (by decide) ?_
    refine g_icmpge (pc := 276) (tgt := 314) (dd d_Mod_perform_2 20 rfl) (by decide) (fun q34 => ?_) (fun q34 => ?_)
    · replace h := ite_t h q34
      refine g_goto (pc := 314) (tgt := 334) (dd d_Mod_perform_2 40 rfl) (by decide) ?_
      refine g_drop [0, 2] ?_
      exact gb_Mod_perform_334 hX hk hT  h
    · replace h := ite_f h q34
      refine g_aload_n (pc := 279) (dd d_Mod_perform_2 21 rfl) rfl ?_
      refine g_getr (pc := 280) (dd d_Mod_perform_2 22 rfl) f_Mod_71 ob_MO rfl (mr_owners hX) ?_
      refine g_iload_n (pc := 283) (dd d_Mod_perform_2 23 rfl) rfl ?_
      refine g_aload_n (pc := 284) (dd d_Mod_perform_2 24 rfl) rfl ?_
      refine g_getr (pc := 285) (dd d_Mod_perform_2 25 rfl) f_Mod_71 ob_MO rfl (mr_owners hX) ?_
      refine g_iload_n (pc := 288) (dd d_Mod_perform_2 26 rfl) rfl ?_
      obtain ⟨c35, h⟩ := chk_e h
      refine g_iald (pc := 289) (dd d_Mod_perform_2 27 rfl) ar_A_owners c35 ?_
      refine g_aload_n (pc := 290) (dd d_Mod_perform_2 28 rfl) rfl ?_
      refine g_geti (pc := 291) (dd d_Mod_perform_2 29 rfl) f_Mod_552 ob_MO rfl ?_
      refine g_icmpne (pc := 294) (tgt := 301) (dd d_Mod_perform_2 30 rfl) (by decide) (fun q36 => ?_) (fun q36 => ?_)
      · replace h := ite_f h q36
        refine g_aload_n (pc := 301) (dd d_Mod_perform_2 33 rfl) rfl ?_
        refine g_getr (pc := 302) (dd d_Mod_perform_2 34 rfl) f_Mod_71 ob_MO rfl (mr_owners hX) ?_
        refine g_iload_n (pc := 305) (dd d_Mod_perform_2 35 rfl) rfl ?_
        refine g_iald (pc := 306) (dd d_Mod_perform_2 36 rfl) ar_A_owners c35 ?_
        exact gb_Mod_perform_307 hX hk hT ih h
      · replace h := ite_t h q36
        refine g_iconst (pc := 297) (v := 0) (dd d_Mod_perform_2 31 rfl) (by decide) ?_
        refine g_goto (pc := 298) (tgt := 307) (dd d_Mod_perform_2 32 rfl) (by decide) ?_
        exact gb_Mod_perform_307 hX hk hT ih h
def b_Mod_perform_191 (n : Nat)  (x1 : Int32) (I : IM) : Option (Int32 × IM) := if (I MO 75 : Int32) = (15 : Int32) then (chk (inb (I MO 77) 8) <| b_Mod_perform_334 n  (I A_registers (I MO 77 : Int32).toNatClampNeg) I) else (if (I MO 75 : Int32) = (17 : Int32) then (if (40 : Int32) ≤ (I MO 48 : Int32) then (b_Mod_perform_249 n  x1 I) else (chk (inb (I MO 76) 8) <| chk (inb (I MO 48) 40) <| lt (up I A_output (I MO 48 : Int32).toNatClampNeg (I A_registers (I MO 76 : Int32).toNatClampNeg)) fun I31 => b_Mod_perform_249 n  x1 I31)) else (if (I MO 75 : Int32) = (20 : Int32) then (l_Mod_perform_273 n  n x1 0 I) else (if (I MO 75 : Int32) = 0 then (lt (up I MO 50 (1)) fun I27 => b_Mod_perform_334 n  (I27 MO 42) I27) else (b_Mod_perform_334 n  x1 I))))
set_option maxRecDepth 20000 in
set_option maxHeartbeats 4000000 in
theorem gb_Mod_perform_191 {Δ : Dx} {X : Lx} (hX : MX Δ X)   {n : Nat} {Γ : Cx} (hk : Γ.k = 1) {r : Int32 × IM} (hT : Tg Δ Γ (some (.int r.1)) NN (r.2, X) 0 0)  {x1 : Int32} {I : IM} (h : b_Mod_perform_191 n  x1 I = some r) : GG Δ m_Mod_perform Γ NN 0 0 (I, X) 191 [some (.ref (Δ.ba + MO)), some (.int (x1)), none] [] := by
  unfold b_Mod_perform_191 at h
  refine g_aload_n (pc := 191) (dd d_Mod_perform_1 36 rfl) rfl ?_
  refine g_geti (pc := 192) (dd d_Mod_perform_1 37 rfl) f_Mod_492 ob_MO rfl ?_
  refine g_bipush (pc := 195) (v := 15) (dd d_Mod_perform_1 38 rfl) (by decide) ?_
  refine g_icmpne (pc := 197) (tgt := 213) (dd d_Mod_perform_1 39 rfl) (by decide) (fun q23 => ?_) (fun q23 => ?_)
  · replace h := ite_f h q23
    refine g_aload_n (pc := 213) (dd d_Mod_perform_1 47 rfl) rfl ?_
    refine g_geti (pc := 214) (dd d_Mod_perform_1 48 rfl) f_Mod_492 ob_MO rfl ?_
    refine g_bipush (pc := 217) (v := 17) (dd d_Mod_perform_1 49 rfl) (by decide) ?_
    refine g_icmpne (pc := 219) (tgt := 262) (dd d_Mod_perform_1 50 rfl) (by decide) (fun q24 => ?_) (fun q24 => ?_)
    · replace h := ite_f h q24
      refine g_aload_n (pc := 262) (dd d_Mod_perform_2 12 rfl) rfl ?_
      refine g_geti (pc := 263) (dd d_Mod_perform_2 13 rfl) f_Mod_492 ob_MO rfl ?_
      refine g_bipush (pc := 266) (v := 20) (dd d_Mod_perform_2 14 rfl) (by decide) ?_
      refine g_icmpne (pc := 268) (tgt := 317) (dd d_Mod_perform_2 15 rfl) (by decide) (fun q25 => ?_) (fun q25 => ?_)
      · replace h := ite_f h q25
        refine g_aload_n (pc := 317) (dd d_Mod_perform_2 41 rfl) rfl ?_
        refine g_geti (pc := 318) (dd d_Mod_perform_2 42 rfl) f_Mod_492 ob_MO rfl ?_
        refine g_ifne (pc := 321) (tgt := 334) (dd d_Mod_perform_2 43 rfl) (by decide) (fun q26 => ?_) (fun q26 => ?_)
        · replace h := ite_f h q26
          refine g_drop [0] ?_
          exact gb_Mod_perform_334 hX hk hT  h
        · replace h := ite_t h q26
          refine g_aload_n (pc := 324) (dd d_Mod_perform_2 44 rfl) rfl ?_
          refine g_iconst (pc := 325) (v := 1) (dd d_Mod_perform_2 45 rfl) (by decide) ?_
          refine g_putiN (pc := 326) (dd d_Mod_perform_2 46 rfl) f_Mod_406 fm_Mod_50 ob_MO rfl (fun I27 hI27 => ?_)
          replace h := lt_e h hI27
          refine g_aload_n (pc := 329) (dd d_Mod_perform_2 47 rfl) rfl ?_
          refine g_geti (pc := 330) (dd d_Mod_perform_2 48 rfl) f_Mod_391 ob_MO rfl ?_
          refine g_istore_n (pc := 333) (dd d_Mod_perform_2 49 rfl) (by decide) ?_
          refine g_drop [0] ?_
          exact gb_Mod_perform_334 hX hk hT  h
      · replace h := ite_t h q25
        refine g_iconst (pc := 271) (v := 0) (dd d_Mod_perform_2 16 rfl) (by decide) ?_
        refine g_istore_n (pc := 272) (dd d_Mod_perform_2 17 rfl) (by decide) ?_
        exact gl_Mod_perform_273 hX hk hT  _ _ _ _ h
    · replace h := ite_t h q24
      refine g_aload_n (pc := 222) (dd d_Mod_perform_1 51 rfl) rfl ?_
      refine g_geti (pc := 223) (dd d_Mod_perform_1 52 rfl) f_Mod_403 ob_MO rfl ?_
      refine g_bipush (pc := 226) (v := 40) (dd d_Mod_perform_1 53 rfl) (by decide) ?_
      refine g_icmpge (pc := 228) (tgt := 249) (dd d_Mod_perform_1 54 rfl) (by decide) (fun q28 => ?_) (fun q28 => ?_)
      · replace h := ite_t h q28
        exact gb_Mod_perform_249 hX hk hT  h
      · replace h := ite_f h q28
        refine g_aload_n (pc := 231) (dd d_Mod_perform_1 55 rfl) rfl ?_
        refine g_getr (pc := 232) (dd d_Mod_perform_1 56 rfl) f_Mod_86 ob_MO rfl (mr_output hX) ?_
        refine g_aload_n (pc := 235) (dd d_Mod_perform_1 57 rfl) rfl ?_
        refine g_geti (pc := 236) (dd d_Mod_perform_1 58 rfl) f_Mod_403 ob_MO rfl ?_
        refine g_aload_n (pc := 239) (dd d_Mod_perform_1 59 rfl) rfl ?_
        refine g_getr (pc := 240) (dd d_Mod_perform_2 0 rfl) f_Mod_74 ob_MO rfl (mr_registers hX) ?_
        refine g_aload_n (pc := 243) (dd d_Mod_perform_2 1 rfl) rfl ?_
        refine g_geti (pc := 244) (dd d_Mod_perform_2 2 rfl) f_Mod_495 ob_MO rfl ?_
        obtain ⟨c29, h⟩ := chk_e h
        refine g_iald (pc := 247) (dd d_Mod_perform_2 3 rfl) ar_A_registers c29 ?_
        obtain ⟨c30, h⟩ := chk_e h
        refine g_iastN (pc := 248) (dd d_Mod_perform_2 4 rfl) ar_A_output c30 (fun I31 hI31 => ?_)
        replace h := lt_e h hI31
        exact gb_Mod_perform_249 hX hk hT  h
  · replace h := ite_t h q23
    refine g_aload_n (pc := 200) (dd d_Mod_perform_1 40 rfl) rfl ?_
    refine g_getr (pc := 201) (dd d_Mod_perform_1 41 rfl) f_Mod_74 ob_MO rfl (mr_registers hX) ?_
    refine g_aload_n (pc := 204) (dd d_Mod_perform_1 42 rfl) rfl ?_
    refine g_geti (pc := 205) (dd d_Mod_perform_1 43 rfl) f_Mod_498 ob_MO rfl ?_
    obtain ⟨c32, h⟩ := chk_e h
    refine g_iald (pc := 208) (dd d_Mod_perform_1 44 rfl) ar_A_registers c32 ?_
    refine g_istore_n (pc := 209) (dd d_Mod_perform_1 45 rfl) (by decide) ?_
    refine g_goto (pc := 210) (tgt := 334) (dd d_Mod_perform_1 46 rfl) (by decide) ?_
    refine g_drop [0] ?_
    exact gb_Mod_perform_334 hX hk hT  h
def b_Mod_perform_72 (n : Nat)  (x1 : Int32) (I : IM) : Option (Int32 × IM) := if (I MO 75 : Int32) = (18 : Int32) then (Option.bind (f_Mod_takeInput n  I) fun v21 => b_Mod_perform_334 n  x1 v21) else (if (I MO 75 : Int32) = (12 : Int32) then (chk (inb (I MO 76) 8) <| chk (inb (I MO 80) 96) <| lt (up I A_ints (I MO 80 : Int32).toNatClampNeg (I A_registers (I MO 76 : Int32).toNatClampNeg)) fun I16 => chk (inb (I16 MO 80) 96) <| lt (up I16 A_held (I16 MO 80 : Int32).toNatClampNeg (I16 MO 83)) fun I18 => chk (inb (I18 MO 80) 96) <| lt (up I18 A_owners (I18 MO 80 : Int32).toNatClampNeg (I18 MO 85)) fun I20 => b_Mod_perform_334 n  x1 I20) else (if (I MO 75 : Int32) = (13 : Int32) then (b_Mod_perform_183 n  I) else (if (I MO 75 : Int32) = (16 : Int32) then (b_Mod_perform_183 n  I) else (if (I MO 75 : Int32) = (14 : Int32) then (chk (inb (I MO 76) 8) <| if (I A_registers (I MO 76 : Int32).toNatClampNeg : Int32) = 0 then (b_Mod_perform_191 n  x1 I) else (b_Mod_perform_183 n  I)) else (b_Mod_perform_191 n  x1 I)))))
set_option maxRecDepth 20000 in
set_option maxHeartbeats 4000000 in
theorem gb_Mod_perform_72 {Δ : Dx} {X : Lx} (hX : MX Δ X)   {n : Nat} {Γ : Cx} (hk : Γ.k = 1) {r : Int32 × IM} (hT : Tg Δ Γ (some (.int r.1)) NN (r.2, X) 0 0)  {x1 : Int32} {I : IM} (h : b_Mod_perform_72 n  x1 I = some r) : GG Δ m_Mod_perform Γ NN 0 0 (I, X) 72 [some (.ref (Δ.ba + MO)), some (.int (x1)), none] [] := by
  unfold b_Mod_perform_72 at h
  refine g_aload_n (pc := 72) (dd d_Mod_perform 38 rfl) rfl ?_
  refine g_geti (pc := 73) (dd d_Mod_perform 39 rfl) f_Mod_492 ob_MO rfl ?_
  refine g_bipush (pc := 76) (v := 18) (dd d_Mod_perform 40 rfl) (by decide) ?_
  refine g_icmpne (pc := 78) (tgt := 88) (dd d_Mod_perform 41 rfl) (by decide) (fun q7 => ?_) (fun q7 => ?_)
  · replace h := ite_f h q7
    refine g_aload_n (pc := 88) (dd d_Mod_perform 45 rfl) rfl ?_
    refine g_geti (pc := 89) (dd d_Mod_perform 46 rfl) f_Mod_492 ob_MO rfl ?_
    refine g_bipush (pc := 92) (v := 12) (dd d_Mod_perform 47 rfl) (by decide) ?_
    refine g_icmpne (pc := 94) (tgt := 144) (dd d_Mod_perform 48 rfl) (by decide) (fun q8 => ?_) (fun q8 => ?_)
    · replace h := ite_f h q8
      refine g_aload_n (pc := 144) (dd d_Mod_perform_1 14 rfl) rfl ?_
      refine g_geti (pc := 145) (dd d_Mod_perform_1 15 rfl) f_Mod_492 ob_MO rfl ?_
      refine g_bipush (pc := 148) (v := 13) (dd d_Mod_perform_1 16 rfl) (by decide) ?_
      refine g_icmpeq (pc := 150) (tgt := 183) (dd d_Mod_perform_1 17 rfl) (by decide) (fun q9 => ?_) (fun q9 => ?_)
      · replace h := ite_t h q9
        refine g_drop [1] ?_
        exact gb_Mod_perform_183 hX hk hT  h
      · replace h := ite_f h q9
        refine g_aload_n (pc := 153) (dd d_Mod_perform_1 18 rfl) rfl ?_
        refine g_geti (pc := 154) (dd d_Mod_perform_1 19 rfl) f_Mod_492 ob_MO rfl ?_
        refine g_bipush (pc := 157) (v := 16) (dd d_Mod_perform_1 20 rfl) (by decide) ?_
        refine g_icmpeq (pc := 159) (tgt := 183) (dd d_Mod_perform_1 21 rfl) (by decide) (fun q10 => ?_) (fun q10 => ?_)
        · replace h := ite_t h q10
          refine g_drop [1] ?_
          exact gb_Mod_perform_183 hX hk hT  h
        · replace h := ite_f h q10
          refine g_aload_n (pc := 162) (dd d_Mod_perform_1 22 rfl) rfl ?_
          refine g_geti (pc := 163) (dd d_Mod_perform_1 23 rfl) f_Mod_492 ob_MO rfl ?_
          refine g_bipush (pc := 166) (v := 14) (dd d_Mod_perform_1 24 rfl) (by decide) ?_
          refine g_icmpne (pc := 168) (tgt := 191) (dd d_Mod_perform_1 25 rfl) (by decide) (fun q11 => ?_) (fun q11 => ?_)
          · replace h := ite_f h q11
            exact gb_Mod_perform_191 hX hk hT  h
          · replace h := ite_t h q11
            refine g_aload_n (pc := 171) (dd d_Mod_perform_1 26 rfl) rfl ?_
            refine g_getr (pc := 172) (dd d_Mod_perform_1 27 rfl) f_Mod_74 ob_MO rfl (mr_registers hX) ?_
            refine g_aload_n (pc := 175) (dd d_Mod_perform_1 28 rfl) rfl ?_
            refine g_geti (pc := 176) (dd d_Mod_perform_1 29 rfl) f_Mod_495 ob_MO rfl ?_
            obtain ⟨c12, h⟩ := chk_e h
            refine g_iald (pc := 179) (dd d_Mod_perform_1 30 rfl) ar_A_registers c12 ?_
            refine g_ifeq (pc := 180) (tgt := 191) (dd d_Mod_perform_1 31 rfl) (by decide) (fun q13 => ?_) (fun q13 => ?_)
            · replace h := ite_t h q13
              exact gb_Mod_perform_191 hX hk hT  h
            · replace h := ite_f h q13
              refine g_drop [1] ?_
              exact gb_Mod_perform_183 hX hk hT  h
    · replace h := ite_t h q8
      refine g_aload_n (pc := 97) (dd d_Mod_perform 49 rfl) rfl ?_
      refine g_getr (pc := 98) (dd d_Mod_perform 50 rfl) f_Mod_65 ob_MO rfl (mr_ints hX) ?_
      refine g_aload_n (pc := 101) (dd d_Mod_perform 51 rfl) rfl ?_
      refine g_geti (pc := 102) (dd d_Mod_perform 52 rfl) f_Mod_507 ob_MO rfl ?_
      refine g_aload_n (pc := 105) (dd d_Mod_perform 53 rfl) rfl ?_
      refine g_getr (pc := 106) (dd d_Mod_perform 54 rfl) f_Mod_74 ob_MO rfl (mr_registers hX) ?_
      refine g_aload_n (pc := 109) (dd d_Mod_perform 55 rfl) rfl ?_
      refine g_geti (pc := 110) (dd d_Mod_perform 56 rfl) f_Mod_495 ob_MO rfl ?_
      obtain ⟨c14, h⟩ := chk_e h
      refine g_iald (pc := 113) (dd d_Mod_perform 57 rfl) ar_A_registers c14 ?_
      obtain ⟨c15, h⟩ := chk_e h
      refine g_iastN (pc := 114) (dd d_Mod_perform 58 rfl) ar_A_ints c15 (fun I16 hI16 => ?_)
      replace h := lt_e h hI16
      refine g_aload_n (pc := 115) (dd d_Mod_perform 59 rfl) rfl ?_
      refine g_getr (pc := 116) (dd d_Mod_perform_1 0 rfl) f_Mod_68 ob_MO rfl (mr_held hX) ?_
      refine g_aload_n (pc := 119) (dd d_Mod_perform_1 1 rfl) rfl ?_
      refine g_geti (pc := 120) (dd d_Mod_perform_1 2 rfl) f_Mod_507 ob_MO rfl ?_
      refine g_aload_n (pc := 123) (dd d_Mod_perform_1 3 rfl) rfl ?_
      refine g_geti (pc := 124) (dd d_Mod_perform_1 4 rfl) f_Mod_546 ob_MO rfl ?_
      obtain ⟨c17, h⟩ := chk_e h
      refine g_iastN (pc := 127) (dd d_Mod_perform_1 5 rfl) ar_A_held c17 (fun I18 hI18 => ?_)
      replace h := lt_e h hI18
      refine g_aload_n (pc := 128) (dd d_Mod_perform_1 6 rfl) rfl ?_
      refine g_getr (pc := 129) (dd d_Mod_perform_1 7 rfl) f_Mod_71 ob_MO rfl (mr_owners hX) ?_
      refine g_aload_n (pc := 132) (dd d_Mod_perform_1 8 rfl) rfl ?_
      refine g_geti (pc := 133) (dd d_Mod_perform_1 9 rfl) f_Mod_507 ob_MO rfl ?_
      refine g_aload_n (pc := 136) (dd d_Mod_perform_1 10 rfl) rfl ?_
      refine g_geti (pc := 137) (dd d_Mod_perform_1 11 rfl) f_Mod_552 ob_MO rfl ?_
      obtain ⟨c19, h⟩ := chk_e h
      refine g_iastN (pc := 140) (dd d_Mod_perform_1 12 rfl) ar_A_owners c19 (fun I20 hI20 => ?_)
      replace h := lt_e h hI20
      refine g_goto (pc := 141) (tgt := 334) (dd d_Mod_perform_1 13 rfl) (by decide) ?_
      refine g_drop [0] ?_
      exact gb_Mod_perform_334 hX hk hT  h
  · replace h := ite_t h q7
    refine g_aload_n (pc := 81) (dd d_Mod_perform 42 rfl) rfl ?_
    obtain ⟨v21, e22, h⟩ := bnd_e h
    refine g_callV (pc := 82) (dd d_Mod_perform 43 rfl) v_Mod_577 ob_MO rfl (ef_Mod_takeInput hX e22) rfl (by rw [hk]; decide) (Nat.le_of_ble_eq_true rfl) ⟨Nat.zero_le _, Nat.zero_le _⟩ rfl ?_
    refine g_goto (pc := 85) (tgt := 334) (dd d_Mod_perform 44 rfl) (by decide) ?_
    refine g_drop [0] ?_
    exact gb_Mod_perform_334 hX hk hT  h
def b_Mod_perform_44 (n : Nat)  (x1 : Int32) (I : IM) : Option (Int32 × IM) := Option.bind (f_Mod_result   I) fun v39 => chk (inb (I MO 76) 8) <| lt (up I A_registers (I MO 76 : Int32).toNatClampNeg (v39)) fun I42 => chk (inb (I42 MO 76) 8) <| lt (up I42 A_registerTags (I42 MO 76 : Int32).toNatClampNeg (I42 MO 83)) fun I44 => b_Mod_perform_72 n  x1 I44
set_option maxRecDepth 20000 in
set_option maxHeartbeats 4000000 in
theorem gb_Mod_perform_44 {Δ : Dx} {X : Lx} (hX : MX Δ X)   {n : Nat} {Γ : Cx} (hk : Γ.k = 1) {r : Int32 × IM} (hT : Tg Δ Γ (some (.int r.1)) NN (r.2, X) 0 0)  {x1 : Int32} {I : IM} (h : b_Mod_perform_44 n  x1 I = some r) : GG Δ m_Mod_perform Γ NN 0 0 (I, X) 44 [some (.ref (Δ.ba + MO)), some (.int (x1)), none] [] := by
  unfold b_Mod_perform_44 at h
  refine g_aload_n (pc := 44) (dd d_Mod_perform 22 rfl) rfl ?_
  obtain ⟨v39, e40, h⟩ := bnd_e h
  refine g_callV (pc := 45) (dd d_Mod_perform 23 rfl) v_Mod_574 ob_MO rfl (ef_Mod_result hX e40) rfl (by rw [hk]; decide) (Nat.le_of_ble_eq_true rfl) ⟨Nat.zero_le _, Nat.zero_le _⟩ rfl ?_
  refine g_istore_n (pc := 48) (dd d_Mod_perform 24 rfl) (by decide) ?_
  refine g_aload_n (pc := 49) (dd d_Mod_perform 25 rfl) rfl ?_
  refine g_getr (pc := 50) (dd d_Mod_perform 26 rfl) f_Mod_74 ob_MO rfl (mr_registers hX) ?_
  refine g_aload_n (pc := 53) (dd d_Mod_perform 27 rfl) rfl ?_
  refine g_geti (pc := 54) (dd d_Mod_perform 28 rfl) f_Mod_495 ob_MO rfl ?_
  refine g_iload_n (pc := 57) (dd d_Mod_perform 29 rfl) rfl ?_
  obtain ⟨c41, h⟩ := chk_e h
  refine g_iastN (pc := 58) (dd d_Mod_perform 30 rfl) ar_A_registers c41 (fun I42 hI42 => ?_)
  replace h := lt_e h hI42
  refine g_aload_n (pc := 59) (dd d_Mod_perform 31 rfl) rfl ?_
  refine g_getr (pc := 60) (dd d_Mod_perform 32 rfl) f_Mod_77 ob_MO rfl (mr_registerTags hX) ?_
  refine g_aload_n (pc := 63) (dd d_Mod_perform 33 rfl) rfl ?_
  refine g_geti (pc := 64) (dd d_Mod_perform 34 rfl) f_Mod_495 ob_MO rfl ?_
  refine g_aload_n (pc := 67) (dd d_Mod_perform 35 rfl) rfl ?_
  refine g_geti (pc := 68) (dd d_Mod_perform 36 rfl) f_Mod_546 ob_MO rfl ?_
  obtain ⟨c43, h⟩ := chk_e h
  refine g_iastN (pc := 71) (dd d_Mod_perform 37 rfl) ar_A_registerTags c43 (fun I44 hI44 => ?_)
  replace h := lt_e h hI44
  refine g_drop [2] ?_
  exact gb_Mod_perform_72 hX hk hT  h
def f_Mod_perform (n : Nat) (I : IM) : Option (Int32 × IM) := Option.bind (f_Mod_between  1 11 I) fun v1 => if v1 = 0 then (if (I MO 75 : Int32) = (16 : Int32) then (b_Mod_perform_44 n  ((I MO 42) + 1) I) else (if (I MO 75 : Int32) = (18 : Int32) then (b_Mod_perform_44 n  ((I MO 42) + 1) I) else (if (I MO 75 : Int32) = (21 : Int32) then (b_Mod_perform_44 n  ((I MO 42) + 1) I) else (b_Mod_perform_72 n  ((I MO 42) + 1) I)))) else (b_Mod_perform_44 n  ((I MO 42) + 1) I)
set_option maxRecDepth 20000 in
set_option maxHeartbeats 4000000 in
theorem ef_Mod_perform {Δ : Dx} {X : Lx} (hX : MX Δ X) {n : Nat}  {I : IM}  {r : Int32 × IM} (h : f_Mod_perform n I = some r) : Ev Δ 1 m_Mod_perform [.ref (Δ.ba + MO)] (I, X) (some (.int r.1)) (r.2, X) := by
  refine ev_of (by decide) (Nat.le_of_ble_eq_true rfl) (fun Γ hk hR hT => ?_)
  change GG Δ m_Mod_perform Γ NN 0 0 (I, X) 0 [some (.ref (Δ.ba + MO)), none, none] []
  unfold f_Mod_perform at h
  refine g_aload_n (pc := 0) (dd d_Mod_perform 0 rfl) rfl ?_
  refine g_geti (pc := 1) (dd d_Mod_perform 1 rfl) f_Mod_391 ob_MO rfl ?_
  refine g_iconst (pc := 4) (v := 1) (dd d_Mod_perform 2 rfl) (by decide) ?_
  refine g_iadd (pc := 5) (dd d_Mod_perform 3 rfl) ?_
  refine g_istore_n (pc := 6) (dd d_Mod_perform 4 rfl) (by decide) ?_
  refine g_aload_n (pc := 7) (dd d_Mod_perform 5 rfl) rfl ?_
  refine g_iconst (pc := 8) (v := 1) (dd d_Mod_perform 6 rfl) (by decide) ?_
  refine g_bipush (pc := 9) (v := 11) (dd d_Mod_perform 7 rfl) (by decide) ?_
  obtain ⟨v1, e2, h⟩ := bnd_e h
  refine g_callV (pc := 11) (dd d_Mod_perform 8 rfl) v_Mod_571 ob_MO rfl (ef_Mod_between hX e2) rfl (by rw [hk]; decide) (Nat.le_of_ble_eq_true rfl) ⟨Nat.zero_le _, Nat.zero_le _⟩ rfl ?_
  refine g_ifne (pc := 14) (tgt := 44) (dd d_Mod_perform 9 rfl) (by decide) (fun q3 => ?_) (fun q3 => ?_)
  · replace h := ite_f h q3
    exact gb_Mod_perform_44 hX hk hT  h
  · replace h := ite_t h q3
    refine g_aload_n (pc := 17) (dd d_Mod_perform 10 rfl) rfl ?_
    refine g_geti (pc := 18) (dd d_Mod_perform 11 rfl) f_Mod_492 ob_MO rfl ?_
    refine g_bipush (pc := 21) (v := 16) (dd d_Mod_perform 12 rfl) (by decide) ?_
    refine g_icmpeq (pc := 23) (tgt := 44) (dd d_Mod_perform 13 rfl) (by decide) (fun q4 => ?_) (fun q4 => ?_)
    · replace h := ite_t h q4
      exact gb_Mod_perform_44 hX hk hT  h
    · replace h := ite_f h q4
      refine g_aload_n (pc := 26) (dd d_Mod_perform 14 rfl) rfl ?_
      refine g_geti (pc := 27) (dd d_Mod_perform 15 rfl) f_Mod_492 ob_MO rfl ?_
      refine g_bipush (pc := 30) (v := 18) (dd d_Mod_perform 16 rfl) (by decide) ?_
      refine g_icmpeq (pc := 32) (tgt := 44) (dd d_Mod_perform 17 rfl) (by decide) (fun q5 => ?_) (fun q5 => ?_)
      · replace h := ite_t h q5
        exact gb_Mod_perform_44 hX hk hT  h
      · replace h := ite_f h q5
        refine g_aload_n (pc := 35) (dd d_Mod_perform 18 rfl) rfl ?_
        refine g_geti (pc := 36) (dd d_Mod_perform 19 rfl) f_Mod_492 ob_MO rfl ?_
        refine g_bipush (pc := 39) (v := 21) (dd d_Mod_perform 20 rfl) (by decide) ?_
        refine g_icmpne (pc := 41) (tgt := 72) (dd d_Mod_perform 21 rfl) (by decide) (fun q6 => ?_) (fun q6 => ?_)
        · replace h := ite_f h q6
          exact gb_Mod_perform_72 hX hk hT  h
        · replace h := ite_t h q6
          exact gb_Mod_perform_44 hX hk hT  h
def f_Mod_noteAt (x1 : Int32) (x2 : Int32) (x3 : Int32) (x4 : Int32) (I : IM) : Option (IM) := chk (inb (6 * ((I MO 63) - (I MO 63) / (16) * (16))) 96) <| lt (up I A_entries (6 * ((I MO 63) - (I MO 63) / (16) * (16)) : Int32).toNatClampNeg (x1)) fun I2 => chk (inb ((6 * ((I MO 63) - (I MO 63) / (16) * (16))) + 1) 96) <| lt (up I2 A_entries ((6 * ((I MO 63) - (I MO 63) / (16) * (16))) + 1 : Int32).toNatClampNeg (x2)) fun I4 => chk (inb ((6 * ((I MO 63) - (I MO 63) / (16) * (16))) + 2) 96) <| lt (up I4 A_entries ((6 * ((I MO 63) - (I MO 63) / (16) * (16))) + 2 : Int32).toNatClampNeg (x3)) fun I6 => chk (inb ((6 * ((I MO 63) - (I MO 63) / (16) * (16))) + 3) 96) <| lt (up I6 A_entries ((6 * ((I MO 63) - (I MO 63) / (16) * (16))) + 3 : Int32).toNatClampNeg (if x4 = 0 then 0 else (I6 MO 83))) fun I9 => chk (inb ((6 * ((I MO 63) - (I MO 63) / (16) * (16))) + 4) 96) <| lt (up I9 A_entries ((6 * ((I MO 63) - (I MO 63) / (16) * (16))) + 4 : Int32).toNatClampNeg (if x4 = 0 then 0 else (I9 MO 84))) fun I12 => chk (inb ((6 * ((I MO 63) - (I MO 63) / (16) * (16))) + 5) 96) <| lt (up I12 A_entries ((6 * ((I MO 63) - (I MO 63) / (16) * (16))) + 5 : Int32).toNatClampNeg (I12 MO 50)) fun I14 => lt (up I14 MO 63 ((I14 MO 63) + 1)) fun I15 => some I15
set_option maxRecDepth 20000 in
set_option maxHeartbeats 4000000 in
theorem ef_Mod_noteAt {Δ : Dx} {X : Lx} (hX : MX Δ X) {x1 : Int32} {x2 : Int32} {x3 : Int32} {x4 : Int32}  {I : IM}  {r : IM} (h : f_Mod_noteAt x1 x2 x3 x4 I = some r) : Ev Δ 0 m_Mod_noteAt [.ref (Δ.ba + MO), .int x1, .int x2, .int x3, .int x4] (I, X) none (r, X) := by
  refine ev_of (by decide) (Nat.le_of_ble_eq_true rfl) (fun Γ hk hR hT => ?_)
  change GG Δ m_Mod_noteAt Γ NN 0 0 (I, X) 0 [some (.ref (Δ.ba + MO)), some (.int (x1)), some (.int (x2)), some (.int (x3)), some (.int (x4)), none] []
  unfold f_Mod_noteAt at h
  refine g_bipush (pc := 0) (v := 6) (dd d_Mod_noteAt 0 rfl) (by decide) ?_
  refine g_aload_n (pc := 2) (dd d_Mod_noteAt 1 rfl) rfl ?_
  refine g_geti (pc := 3) (dd d_Mod_noteAt 2 rfl) f_Mod_418 ob_MO rfl ?_
  refine g_bipush (pc := 6) (v := 16) (dd d_Mod_noteAt 3 rfl) (by decide) ?_
  refine g_irem (pc := 8) (dd d_Mod_noteAt 4 rfl) (by decide) ?_
  refine g_imul (pc := 9) (dd d_Mod_noteAt 5 rfl) ?_
  refine g_istore (pc := 10) (dd d_Mod_noteAt 6 rfl) (by decide) ?_
  refine g_aload_n (pc := 12) (dd d_Mod_noteAt 7 rfl) rfl ?_
  refine g_getr (pc := 13) (dd d_Mod_noteAt 8 rfl) f_Mod_104 ob_MO rfl (mr_entries hX) ?_
  refine g_iload (pc := 16) (dd d_Mod_noteAt 9 rfl) rfl ?_
  refine g_iload_n (pc := 18) (dd d_Mod_noteAt 10 rfl) rfl ?_
  obtain ⟨c1, h⟩ := chk_e h
  refine g_iastN (pc := 19) (dd d_Mod_noteAt 11 rfl) ar_A_entries c1 (fun I2 hI2 => ?_)
  replace h := lt_e h hI2
  refine g_aload_n (pc := 20) (dd d_Mod_noteAt 12 rfl) rfl ?_
  refine g_getr (pc := 21) (dd d_Mod_noteAt 13 rfl) f_Mod_104 ob_MO rfl (mr_entries hX) ?_
  refine g_iload (pc := 24) (dd d_Mod_noteAt 14 rfl) rfl ?_
  refine g_iconst (pc := 26) (v := 1) (dd d_Mod_noteAt 15 rfl) (by decide) ?_
  refine g_iadd (pc := 27) (dd d_Mod_noteAt 16 rfl) ?_
  refine g_iload_n (pc := 28) (dd d_Mod_noteAt 17 rfl) rfl ?_
  obtain ⟨c3, h⟩ := chk_e h
  refine g_iastN (pc := 29) (dd d_Mod_noteAt 18 rfl) ar_A_entries c3 (fun I4 hI4 => ?_)
  replace h := lt_e h hI4
  refine g_aload_n (pc := 30) (dd d_Mod_noteAt 19 rfl) rfl ?_
  refine g_getr (pc := 31) (dd d_Mod_noteAt 20 rfl) f_Mod_104 ob_MO rfl (mr_entries hX) ?_
  refine g_iload (pc := 34) (dd d_Mod_noteAt 21 rfl) rfl ?_
  refine g_iconst (pc := 36) (v := 2) (dd d_Mod_noteAt 22 rfl) (by decide) ?_
  refine g_iadd (pc := 37) (dd d_Mod_noteAt 23 rfl) ?_
  refine g_iload_n (pc := 38) (dd d_Mod_noteAt 24 rfl) rfl ?_
  obtain ⟨c5, h⟩ := chk_e h
  refine g_iastN (pc := 39) (dd d_Mod_noteAt 25 rfl) ar_A_entries c5 (fun I6 hI6 => ?_)
  replace h := lt_e h hI6
  refine g_aload_n (pc := 40) (dd d_Mod_noteAt 26 rfl) rfl ?_
  refine g_getr (pc := 41) (dd d_Mod_noteAt 27 rfl) f_Mod_104 ob_MO rfl (mr_entries hX) ?_
  refine g_iload (pc := 44) (dd d_Mod_noteAt 28 rfl) rfl ?_
  refine g_iconst (pc := 46) (v := 3) (dd d_Mod_noteAt 29 rfl) (by decide) ?_
  refine g_iadd (pc := 47) (dd d_Mod_noteAt 30 rfl) ?_
  refine g_iload (pc := 48) (dd d_Mod_noteAt 31 rfl) rfl ?_
  suffices K50 : ∀ z : Int32, z = (if x4 = 0 then 0 else (I6 MO 83) : Int32) → GG Δ m_Mod_noteAt Γ NN 0 0 (I6, X) 61 [some (.ref (Δ.ba + MO)), some (.int (x1)), some (.int (x2)), some (.int (x3)), some (.int (x4)), some (.int (6 * ((I MO 63) - (I MO 63) / (16) * (16))))] [.int (z), .int ((6 * ((I MO 63) - (I MO 63) / (16) * (16))) + 3), .ref (Δ.ba + A_entries)] by
    refine g_ifeq (pc := 50) (tgt := 60) (dd d_Mod_noteAt 32 rfl) (by decide) (fun q7 => ?_) (fun q7 => ?_)
    · skip
      refine g_iconst (pc := 60) (v := 0) (dd d_Mod_noteAt 36 rfl) (by decide) ?_
      exact K50 _ (by rw [if_pos q7])
    · skip
      refine g_aload_n (pc := 53) (dd d_Mod_noteAt 33 rfl) rfl ?_
      refine g_geti (pc := 54) (dd d_Mod_noteAt 34 rfl) f_Mod_546 ob_MO rfl ?_
      refine g_goto (pc := 57) (tgt := 61) (dd d_Mod_noteAt 35 rfl) (by decide) ?_
      exact K50 _ (by rw [if_neg q7])
  intro z hz
  subst hz
  obtain ⟨c8, h⟩ := chk_e h
  refine g_iastN (pc := 61) (dd d_Mod_noteAt 37 rfl) ar_A_entries c8 (fun I9 hI9 => ?_)
  replace h := lt_e h hI9
  refine g_aload_n (pc := 62) (dd d_Mod_noteAt 38 rfl) rfl ?_
  refine g_getr (pc := 63) (dd d_Mod_noteAt 39 rfl) f_Mod_104 ob_MO rfl (mr_entries hX) ?_
  refine g_iload (pc := 66) (dd d_Mod_noteAt 40 rfl) rfl ?_
  refine g_iconst (pc := 68) (v := 4) (dd d_Mod_noteAt 41 rfl) (by decide) ?_
  refine g_iadd (pc := 69) (dd d_Mod_noteAt 42 rfl) ?_
  refine g_iload (pc := 70) (dd d_Mod_noteAt 43 rfl) rfl ?_
  suffices K72 : ∀ z : Int32, z = (if x4 = 0 then 0 else (I9 MO 84) : Int32) → GG Δ m_Mod_noteAt Γ NN 0 0 (I9, X) 83 [some (.ref (Δ.ba + MO)), some (.int (x1)), some (.int (x2)), some (.int (x3)), some (.int (x4)), some (.int (6 * ((I MO 63) - (I MO 63) / (16) * (16))))] [.int (z), .int ((6 * ((I MO 63) - (I MO 63) / (16) * (16))) + 4), .ref (Δ.ba + A_entries)] by
    refine g_ifeq (pc := 72) (tgt := 82) (dd d_Mod_noteAt 44 rfl) (by decide) (fun q10 => ?_) (fun q10 => ?_)
    · skip
      refine g_iconst (pc := 82) (v := 0) (dd d_Mod_noteAt 48 rfl) (by decide) ?_
      exact K72 _ (by rw [if_pos q10])
    · skip
      refine g_aload_n (pc := 75) (dd d_Mod_noteAt 45 rfl) rfl ?_
      refine g_geti (pc := 76) (dd d_Mod_noteAt 46 rfl) f_Mod_549 ob_MO rfl ?_
      refine g_goto (pc := 79) (tgt := 83) (dd d_Mod_noteAt 47 rfl) (by decide) ?_
      exact K72 _ (by rw [if_neg q10])
  intro z hz
  subst hz
  obtain ⟨c11, h⟩ := chk_e h
  refine g_iastN (pc := 83) (dd d_Mod_noteAt 49 rfl) ar_A_entries c11 (fun I12 hI12 => ?_)
  replace h := lt_e h hI12
  refine g_aload_n (pc := 84) (dd d_Mod_noteAt 50 rfl) rfl ?_
  refine g_getr (pc := 85) (dd d_Mod_noteAt 51 rfl) f_Mod_104 ob_MO rfl (mr_entries hX) ?_
  refine g_iload (pc := 88) (dd d_Mod_noteAt 52 rfl) rfl ?_
  refine g_iconst (pc := 90) (v := 5) (dd d_Mod_noteAt 53 rfl) (by decide) ?_
  refine g_iadd (pc := 91) (dd d_Mod_noteAt 54 rfl) ?_
  refine g_aload_n (pc := 92) (dd d_Mod_noteAt 55 rfl) rfl ?_
  refine g_geti (pc := 93) (dd d_Mod_noteAt 56 rfl) f_Mod_406 ob_MO rfl ?_
  obtain ⟨c13, h⟩ := chk_e h
  refine g_iastN (pc := 96) (dd d_Mod_noteAt 57 rfl) ar_A_entries c13 (fun I14 hI14 => ?_)
  replace h := lt_e h hI14
  refine g_aload_n (pc := 97) (dd d_Mod_noteAt 58 rfl) rfl ?_
  refine g_dup (pc := 98) (dd d_Mod_noteAt 59 rfl) rfl ?_
  refine g_geti (pc := 99) (dd d_Mod_noteAt_1 0 rfl) f_Mod_418 ob_MO rfl ?_
  refine g_iconst (pc := 102) (v := 1) (dd d_Mod_noteAt_1 1 rfl) (by decide) ?_
  refine g_iadd (pc := 103) (dd d_Mod_noteAt_1 2 rfl) ?_
  refine g_putiN (pc := 104) (dd d_Mod_noteAt_1 3 rfl) f_Mod_418 fm_Mod_63 ob_MO rfl (fun I15 hI15 => ?_)
  replace h := lt_e h hI15
  cases h
  exact g_vret (pc := 107) rfl (dd d_Mod_noteAt_1 4 rfl) hT
def f_Mod_note (x1 : Int32) (x2 : Int32) (x3 : Int32) (I : IM) : Option (IM) := Option.bind (f_Mod_noteAt  (I MO 42) x1 x2 x3 I) fun v1 => some v1
set_option maxRecDepth 20000 in
set_option maxHeartbeats 4000000 in
theorem ef_Mod_note {Δ : Dx} {X : Lx} (hX : MX Δ X) {x1 : Int32} {x2 : Int32} {x3 : Int32}  {I : IM}  {r : IM} (h : f_Mod_note x1 x2 x3 I = some r) : Ev Δ 1 m_Mod_note [.ref (Δ.ba + MO), .int x1, .int x2, .int x3] (I, X) none (r, X) := by
  refine ev_of (by decide) (Nat.le_of_ble_eq_true rfl) (fun Γ hk hR hT => ?_)
  change GG Δ m_Mod_note Γ NN 0 0 (I, X) 0 [some (.ref (Δ.ba + MO)), some (.int (x1)), some (.int (x2)), some (.int (x3))] []
  unfold f_Mod_note at h
  refine g_aload_n (pc := 0) (dd d_Mod_note 0 rfl) rfl ?_
  refine g_aload_n (pc := 1) (dd d_Mod_note 1 rfl) rfl ?_
  refine g_geti (pc := 2) (dd d_Mod_note 2 rfl) f_Mod_391 ob_MO rfl ?_
  refine g_iload_n (pc := 5) (dd d_Mod_note 3 rfl) rfl ?_
  refine g_iload_n (pc := 6) (dd d_Mod_note 4 rfl) rfl ?_
  refine g_iload_n (pc := 7) (dd d_Mod_note 5 rfl) rfl ?_
  obtain ⟨v1, e2, h⟩ := bnd_e h
  refine g_callV (pc := 8) (dd d_Mod_note 6 rfl) v_Mod_592 ob_MO rfl (ef_Mod_noteAt hX e2) rfl (by rw [hk]; decide) (Nat.le_of_ble_eq_true rfl) ⟨Nat.zero_le _, Nat.zero_le _⟩ rfl ?_
  cases h
  exact g_vret (pc := 11) rfl (dd d_Mod_note 7 rfl) hT
def b_Mod_instruct_62 (n : Nat)  (x1 : Int32) (I : IM) : Option (Int32 × IM) := lt (up I MO 50 (2)) fun I55 => Option.bind (f_Mod_note  (if x1 = 0 then (-1) else (I55 MO 75)) 0 0 I55) fun v57 => some (0, v57)
set_option maxRecDepth 20000 in
set_option maxHeartbeats 4000000 in
theorem gb_Mod_instruct_62 {Δ : Dx} {X : Lx} (hX : MX Δ X)   {n : Nat} {Γ : Cx} (hk : Γ.k = 6) {r : Int32 × IM} (hT : Tg Δ Γ (some (.int r.1)) NN (r.2, X) 0 0)  {x1 : Int32} {I : IM} (h : b_Mod_instruct_62 n  x1 I = some r) : GG Δ m_Mod_instruct Γ NN 0 0 (I, X) 62 [some (.ref (Δ.ba + MO)), some (.int (x1)), none, none, none, none] [] := by
  unfold b_Mod_instruct_62 at h
  refine g_aload_n (pc := 62) (dd d_Mod_instruct 33 rfl) rfl ?_
  refine g_iconst (pc := 63) (v := 2) (dd d_Mod_instruct 34 rfl) (by decide) ?_
  refine g_putiN (pc := 64) (dd d_Mod_instruct 35 rfl) f_Mod_406 fm_Mod_50 ob_MO rfl (fun I55 hI55 => ?_)
  replace h := lt_e h hI55
  refine g_aload_n (pc := 67) (dd d_Mod_instruct 36 rfl) rfl ?_
  refine g_iload_n (pc := 68) (dd d_Mod_instruct 37 rfl) rfl ?_
  suffices K69 : ∀ z : Int32, z = (if x1 = 0 then (-1) else (I55 MO 75) : Int32) → GG Δ m_Mod_instruct Γ NN 0 0 (I55, X) 80 [some (.ref (Δ.ba + MO)), some (.int (x1)), none, none, none, none] [.int (z), .ref (Δ.ba + MO)] by
    refine g_ifeq (pc := 69) (tgt := 79) (dd d_Mod_instruct 38 rfl) (by decide) (fun q56 => ?_) (fun q56 => ?_)
    · skip
      refine g_iconst (pc := 79) (v := (-1)) (dd d_Mod_instruct 42 rfl) (by decide) ?_
      exact K69 _ (by rw [if_pos q56])
    · skip
      refine g_aload_n (pc := 72) (dd d_Mod_instruct 39 rfl) rfl ?_
      refine g_geti (pc := 73) (dd d_Mod_instruct 40 rfl) f_Mod_492 ob_MO rfl ?_
      refine g_goto (pc := 76) (tgt := 80) (dd d_Mod_instruct 41 rfl) (by decide) ?_
      exact K69 _ (by rw [if_neg q56])
  intro z hz
  subst hz
  refine g_iconst (pc := 80) (v := 0) (dd d_Mod_instruct 43 rfl) (by decide) ?_
  refine g_iconst (pc := 81) (v := 0) (dd d_Mod_instruct 44 rfl) (by decide) ?_
  obtain ⟨v57, e58, h⟩ := bnd_e h
  refine g_callV (pc := 82) (dd d_Mod_instruct 45 rfl) v_Mod_580 ob_MO rfl (ef_Mod_note hX e58) rfl (by rw [hk]; decide) (Nat.le_of_ble_eq_true rfl) ⟨Nat.zero_le _, Nat.zero_le _⟩ rfl ?_
  refine g_iconst (pc := 85) (v := 0) (dd d_Mod_instruct 46 rfl) (by decide) ?_
  cases h
  exact g_zret (pc := 86) rfl (by decide) (dd d_Mod_instruct 47 rfl) hT
def b_Mod_instruct_266 (n : Nat)   (I : IM) : Option (Int32 × IM) := if (I MO 50 : Int32) = 0 then (chk (inb (I MO 42) 64) <| Option.bind (f_Mod_perform n  I) fun v40 => lt (up v40.2 MO 42 (v40.1)) fun I42 => chk (inb (4 * (I42 MO 75)) 88) <| lt (up I42 A_counts (4 * (I42 MO 75) : Int32).toNatClampNeg ((I42 A_counts (4 * (I42 MO 75) : Int32).toNatClampNeg) + 1)) fun I44 => Option.bind (f_Mod_noteAt  (I MO 42) (I44 MO 75) (I44 MO 67) 1 I44) fun v45 => lt (up v45 MO 43 (v45 MO 84)) fun I47 => lt (up I47 MO 44 (I A_codeTags (I MO 42 : Int32).toNatClampNeg)) fun I48 => lt (up I48 MO 51 ((I48 MO 51) + 1)) fun I49 => some (1, I49)) else (lt (up I MO 66 (I MO 68)) fun I50 => chk (inb ((4 * (I50 MO 75)) + 3) 88) <| lt (up I50 A_counts ((4 * (I50 MO 75)) + 3 : Int32).toNatClampNeg ((I50 A_counts ((4 * (I50 MO 75)) + 3 : Int32).toNatClampNeg) + 1)) fun I52 => Option.bind (f_Mod_note  (I52 MO 75) (I52 MO 67) 0 I52) fun v53 => some (0, v53))
set_option maxRecDepth 20000 in
set_option maxHeartbeats 4000000 in
theorem gb_Mod_instruct_266 {Δ : Dx} {X : Lx} (hX : MX Δ X)   {n : Nat} {Γ : Cx} (hk : Γ.k = 6) {r : Int32 × IM} (hT : Tg Δ Γ (some (.int r.1)) NN (r.2, X) 0 0)   {I : IM} (h : b_Mod_instruct_266 n   I = some r) : GG Δ m_Mod_instruct Γ NN 0 0 (I, X) 266 [some (.ref (Δ.ba + MO)), none, none, none, none, none] [] := by
  unfold b_Mod_instruct_266 at h
  refine g_aload_n (pc := 266) (dd d_Mod_instruct_2 21 rfl) rfl ?_
  refine g_geti (pc := 267) (dd d_Mod_instruct_2 22 rfl) f_Mod_406 ob_MO rfl ?_
  refine g_ifeq (pc := 270) (tgt := 313) (dd d_Mod_instruct_2 23 rfl) (by decide) (fun q38 => ?_) (fun q38 => ?_)
  · replace h := ite_t h q38
    refine g_aload_n (pc := 313) (dd d_Mod_instruct_2 50 rfl) rfl ?_
    refine g_getr (pc := 314) (dd d_Mod_instruct_2 51 rfl) f_Mod_62 ob_MO rfl (mr_codeTags hX) ?_
    refine g_aload_n (pc := 317) (dd d_Mod_instruct_2 52 rfl) rfl ?_
    refine g_geti (pc := 318) (dd d_Mod_instruct_2 53 rfl) f_Mod_391 ob_MO rfl ?_
    obtain ⟨c39, h⟩ := chk_e h
    refine g_iald (pc := 321) (dd d_Mod_instruct_2 54 rfl) ar_A_codeTags c39 ?_
    refine g_istore (pc := 322) (dd d_Mod_instruct_2 55 rfl) (by decide) ?_
    refine g_aload_n (pc := 324) (dd d_Mod_instruct_2 56 rfl) rfl ?_
    refine g_geti (pc := 325) (dd d_Mod_instruct_2 57 rfl) f_Mod_391 ob_MO rfl ?_
    refine g_istore (pc := 328) (dd d_Mod_instruct_2 58 rfl) (by decide) ?_
    refine g_aload_n (pc := 330) (dd d_Mod_instruct_2 59 rfl) rfl ?_
    refine g_aload_n (pc := 331) (dd d_Mod_instruct_3 0 rfl) rfl ?_
    obtain ⟨v40, e41, h⟩ := bnd_e h
    refine g_callV (pc := 332) (dd d_Mod_instruct_3 1 rfl) v_Mod_589 ob_MO rfl (ef_Mod_perform hX e41) rfl (by rw [hk]; decide) (Nat.le_of_ble_eq_true rfl) ⟨Nat.zero_le _, Nat.zero_le _⟩ rfl ?_
    refine g_putiN (pc := 335) (dd d_Mod_instruct_3 2 rfl) f_Mod_391 fm_Mod_42 ob_MO rfl (fun I42 hI42 => ?_)
    replace h := lt_e h hI42
    refine g_aload_n (pc := 338) (dd d_Mod_instruct_3 3 rfl) rfl ?_
    refine g_getr (pc := 339) (dd d_Mod_instruct_3 4 rfl) f_Mod_107 ob_MO rfl (mr_counts hX) ?_
    refine g_iconst (pc := 342) (v := 4) (dd d_Mod_instruct_3 5 rfl) (by decide) ?_
    refine g_aload_n (pc := 343) (dd d_Mod_instruct_3 6 rfl) rfl ?_
    refine g_geti (pc := 344) (dd d_Mod_instruct_3 7 rfl) f_Mod_492 ob_MO rfl ?_
    refine g_imul (pc := 347) (dd d_Mod_instruct_3 8 rfl) ?_
    refine g_dup2 (pc := 348) (dd d_Mod_instruct_3 9 rfl) rfl rfl ?_
    obtain ⟨c43, h⟩ := chk_e h
    refine g_iald (pc := 349) (dd d_Mod_instruct_3 10 rfl) ar_A_counts c43 ?_
    refine g_iconst (pc := 350) (v := 1) (dd d_Mod_instruct_3 11 rfl) (by decide) ?_
    refine g_iadd (pc := 351) (dd d_Mod_instruct_3 12 rfl) ?_
    refine g_iastN (pc := 352) (dd d_Mod_instruct_3 13 rfl) ar_A_counts c43 (fun I44 hI44 => ?_)
    replace h := lt_e h hI44
    refine g_aload_n (pc := 353) (dd d_Mod_instruct_3 14 rfl) rfl ?_
    refine g_iload (pc := 354) (dd d_Mod_instruct_3 15 rfl) rfl ?_
    refine g_aload_n (pc := 356) (dd d_Mod_instruct_3 16 rfl) rfl ?_
    refine g_geti (pc := 357) (dd d_Mod_instruct_3 17 rfl) f_Mod_492 ob_MO rfl ?_
    refine g_aload_n (pc := 360) (dd d_Mod_instruct_3 18 rfl) rfl ?_
    refine g_geti (pc := 361) (dd d_Mod_instruct_3 19 rfl) f_Mod_558 ob_MO rfl ?_
    refine g_iconst (pc := 364) (v := 1) (dd d_Mod_instruct_3 20 rfl) (by decide) ?_
    obtain ⟨v45, e46, h⟩ := bnd_e h
    refine g_callV (pc := 365) (dd d_Mod_instruct_3 21 rfl) v_Mod_592 ob_MO rfl (ef_Mod_noteAt hX e46) rfl (by rw [hk]; decide) (Nat.le_of_ble_eq_true rfl) ⟨Nat.zero_le _, Nat.zero_le _⟩ rfl ?_
    refine g_aload_n (pc := 368) (dd d_Mod_instruct_3 22 rfl) rfl ?_
    refine g_aload_n (pc := 369) (dd d_Mod_instruct_3 23 rfl) rfl ?_
    refine g_geti (pc := 370) (dd d_Mod_instruct_3 24 rfl) f_Mod_549 ob_MO rfl ?_
    refine g_putiN (pc := 373) (dd d_Mod_instruct_3 25 rfl) f_Mod_394 fm_Mod_43 ob_MO rfl (fun I47 hI47 => ?_)
    replace h := lt_e h hI47
    refine g_aload_n (pc := 376) (dd d_Mod_instruct_3 26 rfl) rfl ?_
    refine g_iload (pc := 377) (dd d_Mod_instruct_3 27 rfl) rfl ?_
    refine g_putiN (pc := 379) (dd d_Mod_instruct_3 28 rfl) f_Mod_397 fm_Mod_44 ob_MO rfl (fun I48 hI48 => ?_)
    replace h := lt_e h hI48
    refine g_aload_n (pc := 382) (dd d_Mod_instruct_3 29 rfl) rfl ?_
    refine g_dup (pc := 383) (dd d_Mod_instruct_3 30 rfl) rfl ?_
    refine g_geti (pc := 384) (dd d_Mod_instruct_3 31 rfl) f_Mod_409 ob_MO rfl ?_
    refine g_iconst (pc := 387) (v := 1) (dd d_Mod_instruct_3 32 rfl) (by decide) ?_
    refine g_iadd (pc := 388) (dd d_Mod_instruct_3 33 rfl) ?_
    refine g_putiN (pc := 389) (dd d_Mod_instruct_3 34 rfl) f_Mod_409 fm_Mod_51 ob_MO rfl (fun I49 hI49 => ?_)
    replace h := lt_e h hI49
    refine g_iconst (pc := 392) (v := 1) (dd d_Mod_instruct_3 35 rfl) (by decide) ?_
    cases h
    exact g_zret (pc := 393) rfl (by decide) (dd d_Mod_instruct_3 36 rfl) hT
  · replace h := ite_f h q38
    refine g_aload_n (pc := 273) (dd d_Mod_instruct_2 24 rfl) rfl ?_
    refine g_aload_n (pc := 274) (dd d_Mod_instruct_2 25 rfl) rfl ?_
    refine g_geti (pc := 275) (dd d_Mod_instruct_2 26 rfl) f_Mod_114 ob_MO rfl ?_
    refine g_putiN (pc := 278) (dd d_Mod_instruct_2 27 rfl) f_Mod_110 fm_Mod_66 ob_MO rfl (fun I50 hI50 => ?_)
    replace h := lt_e h hI50
    refine g_aload_n (pc := 281) (dd d_Mod_instruct_2 28 rfl) rfl ?_
    refine g_getr (pc := 282) (dd d_Mod_instruct_2 29 rfl) f_Mod_107 ob_MO rfl (mr_counts hX) ?_
    refine g_iconst (pc := 285) (v := 4) (dd d_Mod_instruct_2 30 rfl) (by decide) ?_
    refine g_aload_n (pc := 286) (dd d_Mod_instruct_2 31 rfl) rfl ?_
    refine g_geti (pc := 287) (dd d_Mod_instruct_2 32 rfl) f_Mod_492 ob_MO rfl ?_
    refine g_imul (pc := 290) (dd d_Mod_instruct_2 33 rfl) ?_
    refine g_iconst (pc := 291) (v := 3) (dd d_Mod_instruct_2 34 rfl) (by decide) ?_
    refine g_iadd (pc := 292) (dd d_Mod_instruct_2 35 rfl) ?_
    refine g_dup2 (pc := 293) (dd d_Mod_instruct_2 36 rfl) rfl rfl ?_
    obtain ⟨c51, h⟩ := chk_e h
    refine g_iald (pc := 294) (dd d_Mod_instruct_2 37 rfl) ar_A_counts c51 ?_
    refine g_iconst (pc := 295) (v := 1) (dd d_Mod_instruct_2 38 rfl) (by decide) ?_
    refine g_iadd (pc := 296) (dd d_Mod_instruct_2 39 rfl) ?_
    refine g_iastN (pc := 297) (dd d_Mod_instruct_2 40 rfl) ar_A_counts c51 (fun I52 hI52 => ?_)
    replace h := lt_e h hI52
    refine g_aload_n (pc := 298) (dd d_Mod_instruct_2 41 rfl) rfl ?_
    refine g_aload_n (pc := 299) (dd d_Mod_instruct_2 42 rfl) rfl ?_
    refine g_geti (pc := 300) (dd d_Mod_instruct_2 43 rfl) f_Mod_492 ob_MO rfl ?_
    refine g_aload_n (pc := 303) (dd d_Mod_instruct_2 44 rfl) rfl ?_
    refine g_geti (pc := 304) (dd d_Mod_instruct_2 45 rfl) f_Mod_558 ob_MO rfl ?_
    refine g_iconst (pc := 307) (v := 0) (dd d_Mod_instruct_2 46 rfl) (by decide) ?_
    obtain ⟨v53, e54, h⟩ := bnd_e h
    refine g_callV (pc := 308) (dd d_Mod_instruct_2 47 rfl) v_Mod_580 ob_MO rfl (ef_Mod_note hX e54) rfl (by rw [hk]; decide) (Nat.le_of_ble_eq_true rfl) ⟨Nat.zero_le _, Nat.zero_le _⟩ rfl ?_
    refine g_iconst (pc := 311) (v := 0) (dd d_Mod_instruct_2 48 rfl) (by decide) ?_
    cases h
    exact g_zret (pc := 312) rfl (by decide) (dd d_Mod_instruct_2 49 rfl) hT
def b_Mod_instruct_28 (n : Nat)  (x1 : Int32) (y0 : Int32) (I : IM) : Option (Int32 × IM) := lt (up I MO 75 (y0 &&& 31)) fun I5 => if x1 = 0 then (b_Mod_instruct_62 n  x1 I5) else (if (22 : Int32) ≤ (I5 MO 75 : Int32) then (b_Mod_instruct_62 n  x1 I5) else (chk (inb (I5 MO 75) 44) <| if 0 ≤ (I5 A_ruleOf (I5 MO 75 : Int32).toNatClampNeg : Int32) then (lt (up I5 MO 76 (((y0 : Int32) >>> ((5 : Int32) &&& 31)) &&& 7)) fun I10 => lt (up I10 MO 77 (((y0 : Int32) >>> ((8 : Int32) &&& 31)) &&& 7)) fun I11 => lt (up I11 MO 78 (((y0 : Int32) >>> ((11 : Int32) &&& 31)) &&& 7)) fun I12 => lt (up I12 MO 79 ((y0 : Int32) >>> ((16 : Int32) &&& 31))) fun I13 => chk (inb (I13 MO 77) 8) <| lt (up I13 MO 80 ((I13 A_registers (I13 MO 77 : Int32).toNatClampNeg) + (I13 MO 79))) fun I15 => Option.bind (f_Mod_isWord  (I15 MO 80) I15) fun v16 => chk (v16 = 0 ∨ v16 = 1) <| lt (up I15 MO 81 (v16)) fun I18 => Option.bind (f_Mod_ask n  I18) fun v20 => lt (up v20 MO 50 (if (v20 MO 82 : Int32) = 0 then (if (if (v20 MO 75 : Int32) = (11 : Int32) then 1 else (if (v20 MO 75 : Int32) = (12 : Int32) then 1 else 0) : Int32) = 0 then (if (v20 MO 75 : Int32) = (18 : Int32) then (if (v20 MO 45 : Int32) = 0 then 5 else 0) else 0) else (if (v20 MO 81 : Int32) = 0 then 2 else (if (v20 MO 75 : Int32) = (18 : Int32) then (if (v20 MO 45 : Int32) = 0 then 5 else 0) else 0))) else (v20 MO 82))) fun I31 => if (I31 MO 50 : Int32) = 0 then (if (I31 MO 75 : Int32) = (19 : Int32) then (Option.bind (f_Mod_make n  I31) fun v34 => if (v34.1 : Int32) = 0 then (lt (up v34.2 MO 50 (4)) fun I37 => b_Mod_instruct_266 n  I37) else (b_Mod_instruct_266 n  v34.2)) else (b_Mod_instruct_266 n  I31)) else (b_Mod_instruct_266 n  I31)) else (b_Mod_instruct_62 n  x1 I5)))
set_option maxRecDepth 20000 in
set_option maxHeartbeats 4000000 in
theorem gb_Mod_instruct_28 {Δ : Dx} {X : Lx} (hX : MX Δ X)   {n : Nat} {Γ : Cx} (hk : Γ.k = 6) {r : Int32 × IM} (hT : Tg Δ Γ (some (.int r.1)) NN (r.2, X) 0 0)  {x1 : Int32} {y0 : Int32} {I : IM} (h : b_Mod_instruct_28 n  x1 y0 I = some r) : GG Δ m_Mod_instruct Γ NN 0 0 (I, X) 28 [some (.ref (Δ.ba + MO)), some (.int (x1)), none, none, none, none] [.int (y0)] := by
  unfold b_Mod_instruct_28 at h
  refine g_istore_n (pc := 28) (dd d_Mod_instruct 15 rfl) (by decide) ?_
  refine g_aload_n (pc := 29) (dd d_Mod_instruct 16 rfl) rfl ?_
  refine g_iload_n (pc := 30) (dd d_Mod_instruct 17 rfl) rfl ?_
  refine g_bipush (pc := 31) (v := 31) (dd d_Mod_instruct 18 rfl) (by decide) ?_
  refine g_iand (pc := 33) (dd d_Mod_instruct 19 rfl) ?_
  refine g_putiN (pc := 34) (dd d_Mod_instruct 20 rfl) f_Mod_492 fm_Mod_75 ob_MO rfl (fun I5 hI5 => ?_)
  replace h := lt_e h hI5
  refine g_iload_n (pc := 37) (dd d_Mod_instruct 21 rfl) rfl ?_
  refine g_ifeq (pc := 38) (tgt := 62) (dd d_Mod_instruct 22 rfl) (by decide) (fun q6 => ?_) (fun q6 => ?_)
  · replace h := ite_t h q6
    refine g_drop [2] ?_
    exact gb_Mod_instruct_62 hX hk hT  h
  · replace h := ite_f h q6
    refine g_aload_n (pc := 41) (dd d_Mod_instruct 23 rfl) rfl ?_
    refine g_geti (pc := 42) (dd d_Mod_instruct 24 rfl) f_Mod_492 ob_MO rfl ?_
    refine g_bipush (pc := 45) (v := 22) (dd d_Mod_instruct 25 rfl) (by decide) ?_
    refine g_icmpge (pc := 47) (tgt := 62) (dd d_Mod_instruct 26 rfl) (by decide) (fun q7 => ?_) (fun q7 => ?_)
    · replace h := ite_t h q7
      refine g_drop [2] ?_
      exact gb_Mod_instruct_62 hX hk hT  h
    · replace h := ite_f h q7
      refine g_aload_n (pc := 50) (dd d_Mod_instruct 27 rfl) rfl ?_
      refine g_getr (pc := 51) (dd d_Mod_instruct 28 rfl) f_Mod_44 ob_MO rfl (mr_ruleOf hX) ?_
      refine g_aload_n (pc := 54) (dd d_Mod_instruct 29 rfl) rfl ?_
      refine g_geti (pc := 55) (dd d_Mod_instruct 30 rfl) f_Mod_492 ob_MO rfl ?_
      obtain ⟨c8, h⟩ := chk_e h
      refine g_iald (pc := 58) (dd d_Mod_instruct 31 rfl) ar_A_ruleOf c8 ?_
      refine g_ifge (pc := 59) (tgt := 87) (dd d_Mod_instruct 32 rfl) (by decide) (fun q9 => ?_) (fun q9 => ?_)
      · replace h := ite_t h q9
        refine g_aload_n (pc := 87) (dd d_Mod_instruct 48 rfl) rfl ?_
        refine g_iload_n (pc := 88) (dd d_Mod_instruct 49 rfl) rfl ?_
        refine g_iconst (pc := 89) (v := 5) (dd d_Mod_instruct 50 rfl) (by decide) ?_
        refine g_ishr (pc := 90) (dd d_Mod_instruct 51 rfl) ?_
        refine g_bipush (pc := 91) (v := 7) (dd d_Mod_instruct 52 rfl) (by decide) ?_
        refine g_iand (pc := 93) (dd d_Mod_instruct 53 rfl) ?_
        refine g_putiN (pc := 94) (dd d_Mod_instruct 54 rfl) f_Mod_495 fm_Mod_76 ob_MO rfl (fun I10 hI10 => ?_)
        replace h := lt_e h hI10
        refine g_aload_n (pc := 97) (dd d_Mod_instruct 55 rfl) rfl ?_
        refine g_iload_n (pc := 98) (dd d_Mod_instruct 56 rfl) rfl ?_
        refine g_bipush (pc := 99) (v := 8) (dd d_Mod_instruct 57 rfl) (by decide) ?_
        refine g_ishr (pc := 101) (dd d_Mod_instruct 58 rfl) ?_
        refine g_bipush (pc := 102) (v := 7) (dd d_Mod_instruct 59 rfl) (by decide) ?_
        refine g_iand (pc := 104) (dd d_Mod_instruct_1 0 rfl) ?_
        refine g_putiN (pc := 105) (dd d_Mod_instruct_1 1 rfl) f_Mod_498 fm_Mod_77 ob_MO rfl (fun I11 hI11 => ?_)
        replace h := lt_e h hI11
        refine g_aload_n (pc := 108) (dd d_Mod_instruct_1 2 rfl) rfl ?_
        refine g_iload_n (pc := 109) (dd d_Mod_instruct_1 3 rfl) rfl ?_
        refine g_bipush (pc := 110) (v := 11) (dd d_Mod_instruct_1 4 rfl) (by decide) ?_
        refine g_ishr (pc := 112) (dd d_Mod_instruct_1 5 rfl) ?_
        refine g_bipush (pc := 113) (v := 7) (dd d_Mod_instruct_1 6 rfl) (by decide) ?_
        refine g_iand (pc := 115) (dd d_Mod_instruct_1 7 rfl) ?_
        refine g_putiN (pc := 116) (dd d_Mod_instruct_1 8 rfl) f_Mod_501 fm_Mod_78 ob_MO rfl (fun I12 hI12 => ?_)
        replace h := lt_e h hI12
        refine g_aload_n (pc := 119) (dd d_Mod_instruct_1 9 rfl) rfl ?_
        refine g_iload_n (pc := 120) (dd d_Mod_instruct_1 10 rfl) rfl ?_
        refine g_bipush (pc := 121) (v := 16) (dd d_Mod_instruct_1 11 rfl) (by decide) ?_
        refine g_ishr (pc := 123) (dd d_Mod_instruct_1 12 rfl) ?_
        refine g_putiN (pc := 124) (dd d_Mod_instruct_1 13 rfl) f_Mod_510 fm_Mod_79 ob_MO rfl (fun I13 hI13 => ?_)
        replace h := lt_e h hI13
        refine g_aload_n (pc := 127) (dd d_Mod_instruct_1 14 rfl) rfl ?_
        refine g_aload_n (pc := 128) (dd d_Mod_instruct_1 15 rfl) rfl ?_
        refine g_getr (pc := 129) (dd d_Mod_instruct_1 16 rfl) f_Mod_74 ob_MO rfl (mr_registers hX) ?_
        refine g_aload_n (pc := 132) (dd d_Mod_instruct_1 17 rfl) rfl ?_
        refine g_geti (pc := 133) (dd d_Mod_instruct_1 18 rfl) f_Mod_498 ob_MO rfl ?_
        obtain ⟨c14, h⟩ := chk_e h
        refine g_iald (pc := 136) (dd d_Mod_instruct_1 19 rfl) ar_A_registers c14 ?_
        refine g_aload_n (pc := 137) (dd d_Mod_instruct_1 20 rfl) rfl ?_
        refine g_geti (pc := 138) (dd d_Mod_instruct_1 21 rfl) f_Mod_510 ob_MO rfl ?_
        refine g_iadd (pc := 141) (dd d_Mod_instruct_1 22 rfl) ?_
        refine g_putiN (pc := 142) (dd d_Mod_instruct_1 23 rfl) f_Mod_507 fm_Mod_80 ob_MO rfl (fun I15 hI15 => ?_)
        replace h := lt_e h hI15
        refine g_aload_n (pc := 145) (dd d_Mod_instruct_1 24 rfl) rfl ?_
        refine g_aload_n (pc := 146) (dd d_Mod_instruct_1 25 rfl) rfl ?_
        refine g_geti (pc := 147) (dd d_Mod_instruct_1 26 rfl) f_Mod_507 ob_MO rfl ?_
        obtain ⟨v16, e17, h⟩ := bnd_e h
        refine g_callS (pc := 150) (dd d_Mod_instruct_1 27 rfl) s_Mod_421 (ef_Mod_isWord hX e17) rfl (by rw [hk]; decide) (Nat.le_of_ble_eq_true rfl) ⟨Nat.zero_le _, Nat.zero_le _⟩ rfl ?_
        obtain ⟨c19, h⟩ := chk_e h
        refine g_putzN (pc := 153) (dd d_Mod_instruct_1 28 rfl) f_Mod_504 fm_Mod_81 ob_MO rfl c19 (fun I18 hI18 => ?_)
        replace h := lt_e h hI18
        refine g_aload_n (pc := 156) (dd d_Mod_instruct_1 29 rfl) rfl ?_
        obtain ⟨v20, e21, h⟩ := bnd_e h
        refine g_callV (pc := 157) (dd d_Mod_instruct_1 30 rfl) v_Mod_583 ob_MO rfl (ef_Mod_ask hX e21) rfl (by rw [hk]; decide) (Nat.le_of_ble_eq_true rfl) ⟨Nat.zero_le _, Nat.zero_le _⟩ rfl ?_
        refine g_aload_n (pc := 160) (dd d_Mod_instruct_1 31 rfl) rfl ?_
        refine g_geti (pc := 161) (dd d_Mod_instruct_1 32 rfl) f_Mod_492 ob_MO rfl ?_
        refine g_bipush (pc := 164) (v := 11) (dd d_Mod_instruct_1 33 rfl) (by decide) ?_
        suffices K166 : ∀ z : Int32, z = (if (v20 MO 75 : Int32) = (11 : Int32) then 1 else (if (v20 MO 75 : Int32) = (12 : Int32) then 1 else 0) : Int32) → GG Δ m_Mod_instruct Γ NN 0 0 (v20, X) 183 [some (.ref (Δ.ba + MO)), some (.int (x1)), some (.int (y0)), none, none, none] [.int (z)] by
          refine g_icmpeq (pc := 166) (tgt := 178) (dd d_Mod_instruct_1 34 rfl) (by decide) (fun q22 => ?_) (fun q22 => ?_)
          · skip
            refine g_iconst (pc := 178) (v := 1) (dd d_Mod_instruct_1 39 rfl) (by decide) ?_
            refine g_goto (pc := 179) (tgt := 183) (dd d_Mod_instruct_1 40 rfl) (by decide) ?_
            exact K166 _ (by rw [if_pos q22])
          · skip
            refine g_aload_n (pc := 169) (dd d_Mod_instruct_1 35 rfl) rfl ?_
            refine g_geti (pc := 170) (dd d_Mod_instruct_1 36 rfl) f_Mod_492 ob_MO rfl ?_
            refine g_bipush (pc := 173) (v := 12) (dd d_Mod_instruct_1 37 rfl) (by decide) ?_
            refine g_icmpne (pc := 175) (tgt := 182) (dd d_Mod_instruct_1 38 rfl) (by decide) (fun q23 => ?_) (fun q23 => ?_)
            · skip
              refine g_iconst (pc := 182) (v := 0) (dd d_Mod_instruct_1 41 rfl) (by decide) ?_
              exact K166 _ (by rw [if_neg q22, if_neg q23])
            · skip
              refine g_iconst (pc := 178) (v := 1) (dd d_Mod_instruct_1 39 rfl) (by decide) ?_
              refine g_goto (pc := 179) (tgt := 183) (dd d_Mod_instruct_1 40 rfl) (by decide) ?_
              exact K166 _ (by rw [if_neg q22, if_pos q23])
        intro z hz
        subst hz
        refine g_istore_n (pc := 183) (dd d_Mod_instruct_1 42 rfl) (by decide) ?_
        refine g_aload_n (pc := 184) (dd d_Mod_instruct_1 43 rfl) rfl ?_
        refine g_aload_n (pc := 185) (dd d_Mod_instruct_1 44 rfl) rfl ?_
        refine g_geti (pc := 186) (dd d_Mod_instruct_1 45 rfl) f_Mod_514 ob_MO rfl ?_
        suffices K189 : ∀ z : Int32, z = (if (v20 MO 82 : Int32) = 0 then (if (if (v20 MO 75 : Int32) = (11 : Int32) then 1 else (if (v20 MO 75 : Int32) = (12 : Int32) then 1 else 0) : Int32) = 0 then (if (v20 MO 75 : Int32) = (18 : Int32) then (if (v20 MO 45 : Int32) = 0 then 5 else 0) else 0) else (if (v20 MO 81 : Int32) = 0 then 2 else (if (v20 MO 75 : Int32) = (18 : Int32) then (if (v20 MO 45 : Int32) = 0 then 5 else 0) else 0))) else (v20 MO 82) : Int32) → GG Δ m_Mod_instruct Γ NN 0 0 (v20, X) 235 [some (.ref (Δ.ba + MO)), some (.int (x1)), some (.int (y0)), some (.int (if (v20 MO 75 : Int32) = (11 : Int32) then 1 else (if (v20 MO 75 : Int32) = (12 : Int32) then 1 else 0))), none, none] [.int (z), .ref (Δ.ba + MO)] by
          refine g_ifeq (pc := 189) (tgt := 199) (dd d_Mod_instruct_1 46 rfl) (by decide) (fun q24 => ?_) (fun q24 => ?_)
          · skip
            refine g_iload_n (pc := 199) (dd d_Mod_instruct_1 50 rfl) rfl ?_
            refine g_ifeq (pc := 200) (tgt := 214) (dd d_Mod_instruct_1 51 rfl) (by decide) (fun q25 => ?_) (fun q25 => ?_)
            · skip
              refine g_aload_n (pc := 214) (dd d_Mod_instruct_1 57 rfl) rfl ?_
              refine g_geti (pc := 215) (dd d_Mod_instruct_1 58 rfl) f_Mod_492 ob_MO rfl ?_
              refine g_bipush (pc := 218) (v := 18) (dd d_Mod_instruct_1 59 rfl) (by decide) ?_
              refine g_icmpne (pc := 220) (tgt := 234) (dd d_Mod_instruct_2 0 rfl) (by decide) (fun q26 => ?_) (fun q26 => ?_)
              · skip
                refine g_iconst (pc := 234) (v := 0) (dd d_Mod_instruct_2 6 rfl) (by decide) ?_
                exact K189 _ (by rw [if_pos q24, if_pos q25, if_neg q26])
              · skip
                refine g_aload_n (pc := 223) (dd d_Mod_instruct_2 1 rfl) rfl ?_
                refine g_geti (pc := 224) (dd d_Mod_instruct_2 2 rfl) f_Mod_400 ob_MO rfl ?_
                refine g_ifne (pc := 227) (tgt := 234) (dd d_Mod_instruct_2 3 rfl) (by decide) (fun q27 => ?_) (fun q27 => ?_)
                · skip
                  refine g_iconst (pc := 234) (v := 0) (dd d_Mod_instruct_2 6 rfl) (by decide) ?_
                  exact K189 _ (by rw [if_pos q24, if_pos q25, if_pos q26, if_neg q27])
                · skip
                  refine g_iconst (pc := 230) (v := 5) (dd d_Mod_instruct_2 4 rfl) (by decide) ?_
                  refine g_goto (pc := 231) (tgt := 235) (dd d_Mod_instruct_2 5 rfl) (by decide) ?_
                  exact K189 _ (by rw [if_pos q24, if_pos q25, if_pos q26, if_pos q27])
            · skip
              refine g_aload_n (pc := 203) (dd d_Mod_instruct_1 52 rfl) rfl ?_
              refine g_geti (pc := 204) (dd d_Mod_instruct_1 53 rfl) f_Mod_504 ob_MO rfl ?_
              refine g_ifne (pc := 207) (tgt := 214) (dd d_Mod_instruct_1 54 rfl) (by decide) (fun q28 => ?_) (fun q28 => ?_)
              · skip
                refine g_aload_n (pc := 214) (dd d_Mod_instruct_1 57 rfl) rfl ?_
                refine g_geti (pc := 215) (dd d_Mod_instruct_1 58 rfl) f_Mod_492 ob_MO rfl ?_
                refine g_bipush (pc := 218) (v := 18) (dd d_Mod_instruct_1 59 rfl) (by decide) ?_
                refine g_icmpne (pc := 220) (tgt := 234) (dd d_Mod_instruct_2 0 rfl) (by decide) (fun q29 => ?_) (fun q29 => ?_)
                · skip
                  refine g_iconst (pc := 234) (v := 0) (dd d_Mod_instruct_2 6 rfl) (by decide) ?_
                  exact K189 _ (by rw [if_pos q24, if_neg q25, if_neg q28, if_neg q29])
                · skip
                  refine g_aload_n (pc := 223) (dd d_Mod_instruct_2 1 rfl) rfl ?_
                  refine g_geti (pc := 224) (dd d_Mod_instruct_2 2 rfl) f_Mod_400 ob_MO rfl ?_
                  refine g_ifne (pc := 227) (tgt := 234) (dd d_Mod_instruct_2 3 rfl) (by decide) (fun q30 => ?_) (fun q30 => ?_)
                  · skip
                    refine g_iconst (pc := 234) (v := 0) (dd d_Mod_instruct_2 6 rfl) (by decide) ?_
                    exact K189 _ (by rw [if_pos q24, if_neg q25, if_neg q28, if_pos q29, if_neg q30])
                  · skip
                    refine g_iconst (pc := 230) (v := 5) (dd d_Mod_instruct_2 4 rfl) (by decide) ?_
                    refine g_goto (pc := 231) (tgt := 235) (dd d_Mod_instruct_2 5 rfl) (by decide) ?_
                    exact K189 _ (by rw [if_pos q24, if_neg q25, if_neg q28, if_pos q29, if_pos q30])
              · skip
                refine g_iconst (pc := 210) (v := 2) (dd d_Mod_instruct_1 55 rfl) (by decide) ?_
                refine g_goto (pc := 211) (tgt := 235) (dd d_Mod_instruct_1 56 rfl) (by decide) ?_
                exact K189 _ (by rw [if_pos q24, if_neg q25, if_pos q28])
          · skip
            refine g_aload_n (pc := 192) (dd d_Mod_instruct_1 47 rfl) rfl ?_
            refine g_geti (pc := 193) (dd d_Mod_instruct_1 48 rfl) f_Mod_514 ob_MO rfl ?_
            refine g_goto (pc := 196) (tgt := 235) (dd d_Mod_instruct_1 49 rfl) (by decide) ?_
            exact K189 _ (by rw [if_neg q24])
        intro z hz
        subst hz
        refine g_putiN (pc := 235) (dd d_Mod_instruct_2 7 rfl) f_Mod_406 fm_Mod_50 ob_MO rfl (fun I31 hI31 => ?_)
        replace h := lt_e h hI31
        refine g_aload_n (pc := 238) (dd d_Mod_instruct_2 8 rfl) rfl ?_
        refine g_geti (pc := 239) (dd d_Mod_instruct_2 9 rfl) f_Mod_406 ob_MO rfl ?_
        refine g_ifne (pc := 242) (tgt := 266) (dd d_Mod_instruct_2 10 rfl) (by decide) (fun q32 => ?_) (fun q32 => ?_)
        · replace h := ite_f h q32
          refine g_drop [1, 2, 3] ?_
          exact gb_Mod_instruct_266 hX hk hT  h
        · replace h := ite_t h q32
          refine g_aload_n (pc := 245) (dd d_Mod_instruct_2 11 rfl) rfl ?_
          refine g_geti (pc := 246) (dd d_Mod_instruct_2 12 rfl) f_Mod_492 ob_MO rfl ?_
          refine g_bipush (pc := 249) (v := 19) (dd d_Mod_instruct_2 13 rfl) (by decide) ?_
          refine g_icmpne (pc := 251) (tgt := 266) (dd d_Mod_instruct_2 14 rfl) (by decide) (fun q33 => ?_) (fun q33 => ?_)
          · replace h := ite_f h q33
            refine g_drop [1, 2, 3] ?_
            exact gb_Mod_instruct_266 hX hk hT  h
          · replace h := ite_t h q33
            refine g_aload_n (pc := 254) (dd d_Mod_instruct_2 15 rfl) rfl ?_
            obtain ⟨v34, e35, h⟩ := bnd_e h
            refine g_callV (pc := 255) (dd d_Mod_instruct_2 16 rfl) v_Mod_586 ob_MO rfl (ef_Mod_make hX e35) rfl (by rw [hk]; decide) (Nat.le_of_ble_eq_true rfl) ⟨Nat.zero_le _, Nat.zero_le _⟩ rfl ?_
            refine g_ifne (pc := 258) (tgt := 266) (dd d_Mod_instruct_2 17 rfl) (by decide) (fun q36 => ?_) (fun q36 => ?_)
            · replace h := ite_f h q36
              refine g_drop [1, 2, 3] ?_
              exact gb_Mod_instruct_266 hX hk hT  h
            · replace h := ite_t h q36
              refine g_aload_n (pc := 261) (dd d_Mod_instruct_2 18 rfl) rfl ?_
              refine g_iconst (pc := 262) (v := 4) (dd d_Mod_instruct_2 19 rfl) (by decide) ?_
              refine g_putiN (pc := 263) (dd d_Mod_instruct_2 20 rfl) f_Mod_406 fm_Mod_50 ob_MO rfl (fun I37 hI37 => ?_)
              replace h := lt_e h hI37
              refine g_drop [1, 2, 3] ?_
              exact gb_Mod_instruct_266 hX hk hT  h
      · replace h := ite_f h q9
        refine g_drop [2] ?_
        exact gb_Mod_instruct_62 hX hk hT  h
def f_Mod_instruct (n : Nat) (I : IM) : Option (Int32 × IM) := Option.bind (f_Mod_in  (I MO 42) 0 63 I) fun v1 => if v1 = 0 then (b_Mod_instruct_28 n  v1 0 I) else (chk (inb (I MO 42) 64) <| b_Mod_instruct_28 n  v1 (I A_code (I MO 42 : Int32).toNatClampNeg) I)
set_option maxRecDepth 20000 in
set_option maxHeartbeats 4000000 in
theorem ef_Mod_instruct {Δ : Dx} {X : Lx} (hX : MX Δ X) {n : Nat}  {I : IM}  {r : Int32 × IM} (h : f_Mod_instruct n I = some r) : Ev Δ 6 m_Mod_instruct [.ref (Δ.ba + MO)] (I, X) (some (.int r.1)) (r.2, X) := by
  refine ev_of (by decide) (Nat.le_of_ble_eq_true rfl) (fun Γ hk hR hT => ?_)
  change GG Δ m_Mod_instruct Γ NN 0 0 (I, X) 0 [some (.ref (Δ.ba + MO)), none, none, none, none, none] []
  unfold f_Mod_instruct at h
  refine g_aload_n (pc := 0) (dd d_Mod_instruct 0 rfl) rfl ?_
  refine g_geti (pc := 1) (dd d_Mod_instruct 1 rfl) f_Mod_391 ob_MO rfl ?_
  refine g_iconst (pc := 4) (v := 0) (dd d_Mod_instruct 2 rfl) (by decide) ?_
  refine g_bipush (pc := 5) (v := 63) (dd d_Mod_instruct 3 rfl) (by decide) ?_
  obtain ⟨v1, e2, h⟩ := bnd_e h
  refine g_callS (pc := 7) (dd d_Mod_instruct 4 rfl) s_Mod_243 (ef_Mod_in hX e2) rfl (by rw [hk]; decide) (Nat.le_of_ble_eq_true rfl) ⟨Nat.zero_le _, Nat.zero_le _⟩ rfl ?_
  refine g_istore_n (pc := 10) (dd d_Mod_instruct 5 rfl) (by decide) ?_
  refine g_iload_n (pc := 11) (dd d_Mod_instruct 6 rfl) rfl ?_
  refine g_ifeq (pc := 12) (tgt := 27) (dd d_Mod_instruct 7 rfl) (by decide) (fun q3 => ?_) (fun q3 => ?_)
  · replace h := ite_t h q3
    refine g_iconst (pc := 27) (v := 0) (dd d_Mod_instruct 14 rfl) (by decide) ?_
    exact gb_Mod_instruct_28 hX hk hT  h
  · replace h := ite_f h q3
    refine g_aload_n (pc := 15) (dd d_Mod_instruct 8 rfl) rfl ?_
    refine g_getr (pc := 16) (dd d_Mod_instruct 9 rfl) f_Mod_59 ob_MO rfl (mr_code hX) ?_
    refine g_aload_n (pc := 19) (dd d_Mod_instruct 10 rfl) rfl ?_
    refine g_geti (pc := 20) (dd d_Mod_instruct 11 rfl) f_Mod_391 ob_MO rfl ?_
    obtain ⟨c4, h⟩ := chk_e h
    refine g_iald (pc := 23) (dd d_Mod_instruct 12 rfl) ar_A_code c4 ?_
    refine g_goto (pc := 24) (tgt := 28) (dd d_Mod_instruct 13 rfl) (by decide) ?_
    exact gb_Mod_instruct_28 hX hk hT  h
