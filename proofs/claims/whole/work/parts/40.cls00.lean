/-! the class: each method a function, and its contract -/
def f_Rdr_mayStand (x0 : Int32) (I : IM) : Option (Int32) := some (if x0 < (32 : Int32) then (if x0 = (10 : Int32) then 1 else 0) else (if x0 ≤ (126 : Int32) then 1 else (if x0 = (10 : Int32) then 1 else 0)))
set_option maxRecDepth 20000 in
set_option maxHeartbeats 4000000 in
theorem ef_Rdr_mayStand {Δ : Dx} {X : Lx} {rl hd ot pt it : Nat} (hX : EX Δ X rl hd ot pt it) {x0 : Int32}  {I : IM}  {r : Int32} (h : f_Rdr_mayStand x0 I = some r) : Ev Δ (0) m_Rdr_mayStand [.int x0] (I, X) (some (.int r)) (I, X) := by
  refine ev_of (by decide) (Nat.le_of_ble_eq_true rfl) (fun Γ hk hR hT => ?_)
  change GG Δ m_Rdr_mayStand Γ NN 0 0 (I, X) 0 [some (.int (x0))] []
  unfold f_Rdr_mayStand at h
  refine g_iload_n (pc := 0) (dd d_Rdr_mayStand 0 rfl) rfl ?_
  refine g_bipush (pc := 1) (v := 32) (dd d_Rdr_mayStand 1 rfl) (by decide) ?_
  suffices K3 : ∀ z : Int32, z = (if x0 < (32 : Int32) then (if x0 = (10 : Int32) then 1 else 0) else (if x0 ≤ (126 : Int32) then 1 else (if x0 = (10 : Int32) then 1 else 0)) : Int32) → GG Δ m_Rdr_mayStand Γ NN 0 0 (I, X) 23 [some (.int (x0))] [.int (z)] by
    refine g_icmplt (pc := 3) (tgt := 12) (dd d_Rdr_mayStand 2 rfl) (by decide) (fun q1 => ?_) (fun q1 => ?_)
    · skip
      refine g_iload_n (pc := 12) (dd d_Rdr_mayStand 6 rfl) rfl ?_
      refine g_bipush (pc := 13) (v := 10) (dd d_Rdr_mayStand 7 rfl) (by decide) ?_
      refine g_icmpne (pc := 15) (tgt := 22) (dd d_Rdr_mayStand 8 rfl) (by decide) (fun q2 => ?_) (fun q2 => ?_)
      · skip
        refine g_iconst (pc := 22) (v := 0) (dd d_Rdr_mayStand 11 rfl) (by decide) ?_
        exact K3 _ (by rw [if_pos q1, if_neg q2])
      · skip
        refine g_iconst (pc := 18) (v := 1) (dd d_Rdr_mayStand 9 rfl) (by decide) ?_
        refine g_goto (pc := 19) (tgt := 23) (dd d_Rdr_mayStand 10 rfl) (by decide) ?_
        exact K3 _ (by rw [if_pos q1, if_pos q2])
    · skip
      refine g_iload_n (pc := 6) (dd d_Rdr_mayStand 3 rfl) rfl ?_
      refine g_bipush (pc := 7) (v := 126) (dd d_Rdr_mayStand 4 rfl) (by decide) ?_
      refine g_icmple (pc := 9) (tgt := 18) (dd d_Rdr_mayStand 5 rfl) (by decide) (fun q3 => ?_) (fun q3 => ?_)
      · skip
        refine g_iconst (pc := 18) (v := 1) (dd d_Rdr_mayStand 9 rfl) (by decide) ?_
        refine g_goto (pc := 19) (tgt := 23) (dd d_Rdr_mayStand 10 rfl) (by decide) ?_
        exact K3 _ (by rw [if_neg q1, if_pos q3])
      · skip
        refine g_iload_n (pc := 12) (dd d_Rdr_mayStand 6 rfl) rfl ?_
        refine g_bipush (pc := 13) (v := 10) (dd d_Rdr_mayStand 7 rfl) (by decide) ?_
        refine g_icmpne (pc := 15) (tgt := 22) (dd d_Rdr_mayStand 8 rfl) (by decide) (fun q4 => ?_) (fun q4 => ?_)
        · skip
          refine g_iconst (pc := 22) (v := 0) (dd d_Rdr_mayStand 11 rfl) (by decide) ?_
          exact K3 _ (by rw [if_neg q1, if_neg q3, if_neg q4])
        · skip
          refine g_iconst (pc := 18) (v := 1) (dd d_Rdr_mayStand 9 rfl) (by decide) ?_
          refine g_goto (pc := 19) (tgt := 23) (dd d_Rdr_mayStand 10 rfl) (by decide) ?_
          exact K3 _ (by rw [if_neg q1, if_neg q3, if_pos q4])
  intro z hz
  subst hz
  cases h
  exact g_zret (pc := 23) rfl (by (repeat' split) <;> first | exact Or.inl rfl | exact Or.inr rfl) (dd d_Rdr_mayStand 12 rfl) hT
def b_Rdr_append_44    (I : IM) : Option (IM) := some I
set_option maxRecDepth 20000 in
set_option maxHeartbeats 4000000 in
theorem gb_Rdr_append_44 {Δ : Dx} {X : Lx} {rl hd ot pt it : Nat} (hX : EX Δ X rl hd ot pt it)    {Γ : Cx} (hk : Γ.k = 0) {r : IM} (hT : Tg Δ Γ none NN (r, X) 0 0)   {I : IM} (h : b_Rdr_append_44    I = some r) : GG Δ m_Rdr_append Γ NN 0 0 (I, X) 44 [none, none] [] := by
  unfold b_Rdr_append_44 at h
  cases h
  exact g_vret (pc := 44) rfl (dd d_Rdr_append 24 rfl) hT
def f_Rdr_append (x1 : Int32) (I : IM) : Option (IM) := if x1 = 0 then (b_Rdr_append_44   I) else (if (I 1 0 : Int32) < 0 then (b_Rdr_append_44   I) else (if (900 : Int32) ≤ (I 1 0 : Int32) then (b_Rdr_append_44   I) else (chk (inb (I 1 0) 900) <| lt (up I 2 (I 1 0 : Int32).toNatClampNeg (cnar (((x1).toUInt32 % 65536).toInt32))) fun I5 => lt (up I5 1 0 ((I5 1 0) + 1)) fun I6 => b_Rdr_append_44   I6)))
set_option maxRecDepth 20000 in
set_option maxHeartbeats 4000000 in
theorem ef_Rdr_append {Δ : Dx} {X : Lx} {rl hd ot pt it : Nat} (hX : EX Δ X rl hd ot pt it) {x1 : Int32}  {I : IM}  {r : IM} (h : f_Rdr_append x1 I = some r) : Ev Δ (0) m_Rdr_append [.ref (Δ.ba + 1), .int x1] (I, X) none (r, X) := by
  refine ev_of (by decide) (Nat.le_of_ble_eq_true rfl) (fun Γ hk hR hT => ?_)
  change GG Δ m_Rdr_append Γ NN 0 0 (I, X) 0 [some (.ref (Δ.ba + 1)), some (.int (x1))] []
  unfold f_Rdr_append at h
  refine g_iload_n (pc := 0) (dd d_Rdr_append 0 rfl) rfl ?_
  refine g_ifeq (pc := 1) (tgt := 44) (dd d_Rdr_append 1 rfl) (by decide) (fun q1 => ?_) (fun q1 => ?_)
  · replace h := ite_t h q1
    refine g_drop [0, 1] ?_
    exact gb_Rdr_append_44 hX hk hT  h
  · replace h := ite_f h q1
    refine g_aload_n (pc := 4) (dd d_Rdr_append 2 rfl) rfl ?_
    refine g_geti (pc := 5) (dd d_Rdr_append 3 rfl) f_Rdr_39 oc_Rdr rfl ?_
    refine g_iflt (pc := 8) (tgt := 44) (dd d_Rdr_append 4 rfl) (by decide) (fun q2 => ?_) (fun q2 => ?_)
    · replace h := ite_t h q2
      refine g_drop [0, 1] ?_
      exact gb_Rdr_append_44 hX hk hT  h
    · replace h := ite_f h q2
      refine g_aload_n (pc := 11) (dd d_Rdr_append 5 rfl) rfl ?_
      refine g_geti (pc := 12) (dd d_Rdr_append 6 rfl) f_Rdr_39 oc_Rdr rfl ?_
      refine g_aload_n (pc := 15) (dd d_Rdr_append 7 rfl) rfl ?_
      refine g_getr (pc := 16) (dd d_Rdr_append 8 rfl) f_Rdr_9 oc_Rdr rfl (rx_Rdr_6 hX) ?_
      refine g_alen (pc := 19) (t := 2) (v := 900) (dd d_Rdr_append 9 rfl) ax_Rdr_6 rfl (by decide) ?_
      refine g_icmpge (pc := 20) (tgt := 44) (dd d_Rdr_append 10 rfl) (by decide) (fun q3 => ?_) (fun q3 => ?_)
      · replace h := ite_t h q3
        refine g_drop [0, 1] ?_
        exact gb_Rdr_append_44 hX hk hT  h
      · replace h := ite_f h q3
        refine g_aload_n (pc := 23) (dd d_Rdr_append 11 rfl) rfl ?_
        refine g_getr (pc := 24) (dd d_Rdr_append 12 rfl) f_Rdr_9 oc_Rdr rfl (rx_Rdr_6 hX) ?_
        refine g_aload_n (pc := 27) (dd d_Rdr_append 13 rfl) rfl ?_
        refine g_geti (pc := 28) (dd d_Rdr_append 14 rfl) f_Rdr_39 oc_Rdr rfl ?_
        refine g_iload_n (pc := 31) (dd d_Rdr_append 15 rfl) rfl ?_
        refine g_i2c (pc := 32) (dd d_Rdr_append 16 rfl) ?_
        obtain ⟨c4, h⟩ := chk_e h
        refine g_castN (pc := 33) (dd d_Rdr_append 17 rfl) ax_Rdr_6 c4 (fun I5 hI5 => ?_)
        replace h := lt_e h hI5
        refine g_aload_n (pc := 34) (dd d_Rdr_append 18 rfl) rfl ?_
        refine g_dup (pc := 35) (dd d_Rdr_append 19 rfl) rfl ?_
        refine g_geti (pc := 36) (dd d_Rdr_append 20 rfl) f_Rdr_39 oc_Rdr rfl ?_
        refine g_iconst (pc := 39) (v := 1) (dd d_Rdr_append 21 rfl) (by decide) ?_
        refine g_iadd (pc := 40) (dd d_Rdr_append 22 rfl) ?_
        refine g_putiN (pc := 41) (dd d_Rdr_append 23 rfl) f_Rdr_39 fm_Rdr_0 oc_Rdr rfl (fun I6 hI6 => ?_)
        replace h := lt_e h hI6
        refine g_drop [0, 1] ?_
        exact gb_Rdr_append_44 hX hk hT  h
def b_Eng_put_42 (n : Nat) (H4 : Int32 → Int32 → Int32 → IM → Option (Int32 × IM)) (x1 : Int32) (x2 : Int32) (x3 : Int32) (x4 : Int32) (I : IM) : Option (Int32 × IM) := H4 x1 (x2 + (if x4 = 0 then 0 else 1 : Int32)) (x3 + 8) I
set_option maxRecDepth 20000 in
set_option maxHeartbeats 4000000 in
theorem gb_Eng_put_42 {Δ : Dx} {X : Lx} {rl hd ot pt it : Nat} (hX : EX Δ X rl hd ot pt it)   {n : Nat} {Γ : Cx} (hk : Γ.k = 1) {r : Int32 × IM} (hT : Tg Δ Γ (some (.int r.1)) NN (r.2, X) 0 0) {H4 : Int32 → Int32 → Int32 → IM → Option (Int32 × IM)} (hH4 : ∀ (x1 : Int32) (x2 : Int32) (x3 : Int32) (I : IM), H4 x1 x2 x3 I = some r → GG Δ m_Eng_put Γ NN 0 0 (I, X) 4 [some (.ref (Δ.ba + 0)), some (.int (x1)), some (.int (x2)), some (.int (x3)), none] []) {x1 : Int32} {x2 : Int32} {x3 : Int32} {x4 : Int32} {I : IM} (h : b_Eng_put_42 n H4 x1 x2 x3 x4 I = some r) : GG Δ m_Eng_put Γ NN 0 0 (I, X) 42 [some (.ref (Δ.ba + 0)), some (.int (x1)), some (.int (x2)), some (.int (x3)), some (.int (x4))] [] := by
  unfold b_Eng_put_42 at h
  refine g_iload_n (pc := 42) (dd d_Eng_put 23 rfl) rfl ?_
  refine g_iload (pc := 43) (dd d_Eng_put 24 rfl) rfl ?_
  suffices K45 : ∀ z : Int32, z = (if x4 = 0 then 0 else 1 : Int32) → GG Δ m_Eng_put Γ NN 0 0 (I, X) 53 [some (.ref (Δ.ba + 0)), some (.int (x1)), some (.int (x2)), some (.int (x3)), some (.int (x4))] [.int (z), .int (x2)] by
    refine g_ifne (pc := 45) (tgt := 52) (dd d_Eng_put 25 rfl) (by decide) (fun q7 => ?_) (fun q7 => ?_)
    · skip
      refine g_iconst (pc := 52) (v := 1) (dd d_Eng_put 28 rfl) (by decide) ?_
      exact K45 _ (by rw [if_neg q7])
    · skip
      refine g_iconst (pc := 48) (v := 0) (dd d_Eng_put 26 rfl) (by decide) ?_
      refine g_goto (pc := 49) (tgt := 53) (dd d_Eng_put 27 rfl) (by decide) ?_
      exact K45 _ (by rw [if_pos q7])
  intro z hz
  subst hz
  refine g_iadd (pc := 53) (dd d_Eng_put 29 rfl) ?_
  refine g_istore_n (pc := 54) (dd d_Eng_put 30 rfl) (by decide) ?_
  refine g_iincW (pc := 55) (w := 8) (dd d_Eng_put 31 rfl) rfl (by decide) (by decide) ?_
  refine g_goto (pc := 58) (tgt := 4) (dd d_Eng_put 32 rfl) (by decide) ?_
  refine g_drop [4] ?_
  exact hH4 _ _ _ _ h
def l_Eng_put_88 (n : Nat)  : Nat → Int32 → Int32 → IM → Option (Int32 × IM)
  | 0, _, _, _ => none
  | f + 1, x1, x3, I => if (32 : Int32) ≤ x3 then (some (I 1 0, I)) else (Option.bind (f_Rdr_append  (((x1 : Int32) >>> ((x3 : Int32) &&& 31)) &&& 255) I) fun v9 => (l_Eng_put_88 n  f) x1 (x3 + 8) v9)
set_option maxRecDepth 20000 in
set_option maxHeartbeats 4000000 in
theorem gl_Eng_put_88 {Δ : Dx} {X : Lx} {rl hd ot pt it : Nat} (hX : EX Δ X rl hd ot pt it)   {n : Nat} {Γ : Cx} (hk : Γ.k = 1) {r : Int32 × IM} (hT : Tg Δ Γ (some (.int r.1)) NN (r.2, X) 0 0)  : ∀ (f : Nat) (x1 : Int32) (x3 : Int32) (I : IM), l_Eng_put_88 n  f x1 x3 I = some r → GG Δ m_Eng_put Γ NN 0 0 (I, X) 88 [some (.ref (Δ.ba + 0)), some (.int (x1)), none, some (.int (x3)), none] []
  | 0, _, _, _, h => by cases h
  | f + 1, x1, x3, I, h => by
    have ih := gl_Eng_put_88 (n := n) hX hk hT  f
    rw [l_Eng_put_88] at h
    refine g_iload_n (pc := 88) (dd d_Eng_put 47 rfl) rfl ?_
    refine g_bipush (pc := 89) (v := 32) (dd d_Eng_put 48 rfl) (by decide) ?_
    refine g_icmpge (pc := 91) (tgt := 114) (dd d_Eng_put 49 rfl) (by decide) (fun q8 => ?_) (fun q8 => ?_)
    · replace h := ite_t h q8
      refine g_aload_n (pc := 114) (dd d_Eng_put_1 0 rfl) rfl ?_
      refine g_getr (pc := 115) (dd d_Eng_put_1 1 rfl) f_Eng_12 oc_Eng rfl (rx_Eng_0 hX) ?_
      refine g_geti (pc := 118) (dd d_Eng_put_1 2 rfl) f_Eng_84 oc_Rdr rfl ?_
      cases h
      exact g_iret (pc := 121) rfl (dd d_Eng_put_1 3 rfl) hT
    · replace h := ite_f h q8
      refine g_aload_n (pc := 94) (dd d_Eng_put 50 rfl) rfl ?_
      refine g_getr (pc := 95) (dd d_Eng_put 51 rfl) f_Eng_12 oc_Eng rfl (rx_Eng_0 hX) ?_
      refine g_iload_n (pc := 98) (dd d_Eng_put 52 rfl) rfl ?_
      refine g_iload_n (pc := 99) (dd d_Eng_put 53 rfl) rfl ?_
      refine g_ishr (pc := 100) (dd d_Eng_put 54 rfl) ?_
      refine g_sipush (pc := 101) (v := 255) (dd d_Eng_put 55 rfl) (by decide) ?_
      refine g_iand (pc := 104) (dd d_Eng_put 56 rfl) ?_
      obtain ⟨v9, e10, h⟩ := bnd_e h
      refine g_callV (pc := 105) (dd d_Eng_put 57 rfl) v_Eng_93 oc_Rdr rfl (ef_Rdr_append hX e10) rfl (by omega) (Nat.le_of_ble_eq_true rfl) ⟨Nat.zero_le _, Nat.zero_le _⟩ rfl ?_
      refine g_iincW (pc := 108) (w := 8) (dd d_Eng_put 58 rfl) rfl (by decide) (by decide) ?_
      refine g_goto (pc := 111) (tgt := 88) (dd d_Eng_put 59 rfl) (by decide) ?_
      exact ih _ _ _ h
def l_Eng_put_4 (n : Nat)  : Nat → Int32 → Int32 → Int32 → IM → Option (Int32 × IM)
  | 0, _, _, _, _ => none
  | f + 1, x1, x2, x3, I => if (32 : Int32) ≤ x3 then (if ((I 1 0) + x2 : Int32) ≤ (900 : Int32) then (l_Eng_put_88 n  n x1 0 I) else (none)) else (if (((x1 : Int32) >>> ((x3 : Int32) &&& 31)) &&& 255 : Int32) = 0 then (b_Eng_put_42 n (l_Eng_put_4 n  f) x1 x2 x3 (((x1 : Int32) >>> ((x3 : Int32) &&& 31)) &&& 255) I) else (Option.bind (f_Rdr_mayStand  (((x1 : Int32) >>> ((x3 : Int32) &&& 31)) &&& 255) I) fun v4 => if v4 = 0 then (none) else (b_Eng_put_42 n (l_Eng_put_4 n  f) x1 x2 x3 (((x1 : Int32) >>> ((x3 : Int32) &&& 31)) &&& 255) I)))
set_option maxRecDepth 20000 in
set_option maxHeartbeats 4000000 in
theorem gl_Eng_put_4 {Δ : Dx} {X : Lx} {rl hd ot pt it : Nat} (hX : EX Δ X rl hd ot pt it)   {n : Nat} {Γ : Cx} (hk : Γ.k = 1) {r : Int32 × IM} (hT : Tg Δ Γ (some (.int r.1)) NN (r.2, X) 0 0)  : ∀ (f : Nat) (x1 : Int32) (x2 : Int32) (x3 : Int32) (I : IM), l_Eng_put_4 n  f x1 x2 x3 I = some r → GG Δ m_Eng_put Γ NN 0 0 (I, X) 4 [some (.ref (Δ.ba + 0)), some (.int (x1)), some (.int (x2)), some (.int (x3)), none] []
  | 0, _, _, _, _, h => by cases h
  | f + 1, x1, x2, x3, I, h => by
    have ih := gl_Eng_put_4 (n := n) hX hk hT  f
    rw [l_Eng_put_4] at h
    refine g_iload_n (pc := 4) (dd d_Eng_put 4 rfl) rfl ?_
    refine g_bipush (pc := 5) (v := 32) (dd d_Eng_put 5 rfl) (by decide) ?_
    refine g_icmpge (pc := 7) (tgt := 61) (dd d_Eng_put 6 rfl) (by decide) (fun q1 => ?_) (fun q1 => ?_)
    · replace h := ite_t h q1
      refine g_aload_n (pc := 61) (dd d_Eng_put 33 rfl) rfl ?_
      refine g_getr (pc := 62) (dd d_Eng_put 34 rfl) f_Eng_12 oc_Eng rfl (rx_Eng_0 hX) ?_
      refine g_geti (pc := 65) (dd d_Eng_put 35 rfl) f_Eng_84 oc_Rdr rfl ?_
      refine g_iload_n (pc := 68) (dd d_Eng_put 36 rfl) rfl ?_
      refine g_iadd (pc := 69) (dd d_Eng_put 37 rfl) ?_
      refine g_sipush (pc := 70) (v := 900) (dd d_Eng_put 38 rfl) (by decide) ?_
      refine g_icmple (pc := 73) (tgt := 86) (dd d_Eng_put 39 rfl) (by decide) (fun q2 => ?_) (fun q2 => ?_)
      · replace h := ite_t h q2
        refine g_iconst (pc := 86) (v := 0) (dd d_Eng_put 45 rfl) (by decide) ?_
        refine g_istore_n (pc := 87) (dd d_Eng_put 46 rfl) (by decide) ?_
        refine g_drop [2] ?_
        exact gl_Eng_put_88 hX hk hT  _ _ _ _ h
      · replace h := ite_f h q2
        cases h
    · replace h := ite_f h q1
      refine g_iload_n (pc := 10) (dd d_Eng_put 7 rfl) rfl ?_
      refine g_iload_n (pc := 11) (dd d_Eng_put 8 rfl) rfl ?_
      refine g_ishr (pc := 12) (dd d_Eng_put 9 rfl) ?_
      refine g_sipush (pc := 13) (v := 255) (dd d_Eng_put 10 rfl) (by decide) ?_
      refine g_iand (pc := 16) (dd d_Eng_put 11 rfl) ?_
      refine g_istore (pc := 17) (dd d_Eng_put 12 rfl) (by decide) ?_
      refine g_iload (pc := 19) (dd d_Eng_put 13 rfl) rfl ?_
      refine g_ifeq (pc := 21) (tgt := 42) (dd d_Eng_put 14 rfl) (by decide) (fun q3 => ?_) (fun q3 => ?_)
      · replace h := ite_t h q3
        exact gb_Eng_put_42 hX hk hT ih h
      · replace h := ite_f h q3
        refine g_iload (pc := 24) (dd d_Eng_put 15 rfl) rfl ?_
        obtain ⟨v4, e5, h⟩ := bnd_e h
        refine g_callS (pc := 26) (dd d_Eng_put 16 rfl) s_Eng_73 (ef_Rdr_mayStand hX e5) rfl (by omega) (Nat.le_of_ble_eq_true rfl) ⟨Nat.zero_le _, Nat.zero_le _⟩ rfl ?_
        refine g_ifne (pc := 29) (tgt := 42) (dd d_Eng_put 17 rfl) (by decide) (fun q6 => ?_) (fun q6 => ?_)
        · replace h := ite_f h q6
          exact gb_Eng_put_42 hX hk hT ih h
        · replace h := ite_t h q6
          cases h
def f_Eng_put (n : Nat) (x1 : Int32) (I : IM) : Option (Int32 × IM) := l_Eng_put_4 n  n x1 0 0 I
set_option maxRecDepth 20000 in
set_option maxHeartbeats 4000000 in
theorem ef_Eng_put {Δ : Dx} {X : Lx} {rl hd ot pt it : Nat} (hX : EX Δ X rl hd ot pt it) {n : Nat} {x1 : Int32}  {I : IM}  {r : Int32 × IM} (h : f_Eng_put n x1 I = some r) : Ev Δ (1) m_Eng_put [.ref (Δ.ba + 0), .int x1] (I, X) (some (.int r.1)) (r.2, X) := by
  refine ev_of (by decide) (Nat.le_of_ble_eq_true rfl) (fun Γ hk hR hT => ?_)
  change GG Δ m_Eng_put Γ NN 0 0 (I, X) 0 [some (.ref (Δ.ba + 0)), some (.int (x1)), none, none, none] []
  unfold f_Eng_put at h
  refine g_iconst (pc := 0) (v := 0) (dd d_Eng_put 0 rfl) (by decide) ?_
  refine g_istore_n (pc := 1) (dd d_Eng_put 1 rfl) (by decide) ?_
  refine g_iconst (pc := 2) (v := 0) (dd d_Eng_put 2 rfl) (by decide) ?_
  refine g_istore_n (pc := 3) (dd d_Eng_put 3 rfl) (by decide) ?_
  exact gl_Eng_put_4 hX hk hT  _ _ _ _ _ h
def b_Eng_end_15    (I : IM) : Option (IM) := none
set_option maxRecDepth 20000 in
set_option maxHeartbeats 4000000 in
theorem gb_Eng_end_15 {Δ : Dx} {X : Lx} {rl hd ot pt it : Nat} (hX : EX Δ X rl hd ot pt it)    {Γ : Cx} (hk : Γ.k = 0) {r : IM} (hT : Tg Δ Γ none NN (r, X) 0 0)   {I : IM} (h : b_Eng_end_15    I = some r) : GG Δ m_Eng_end Γ NN 0 0 (I, X) 15 [none, none] [] := by
  unfold b_Eng_end_15 at h
  cases h
def f_Eng_end (x1 : Int32) (I : IM) : Option (IM) := if x1 < 0 then (b_Eng_end_15   I) else (if x1 ≤ (I 1 0 : Int32) then (lt (up I 1 0 (x1)) fun I3 => some I3) else (b_Eng_end_15   I))
set_option maxRecDepth 20000 in
set_option maxHeartbeats 4000000 in
theorem ef_Eng_end {Δ : Dx} {X : Lx} {rl hd ot pt it : Nat} (hX : EX Δ X rl hd ot pt it) {x1 : Int32}  {I : IM}  {r : IM} (h : f_Eng_end x1 I = some r) : Ev Δ (0) m_Eng_end [.ref (Δ.ba + 0), .int x1] (I, X) none (r, X) := by
  refine ev_of (by decide) (Nat.le_of_ble_eq_true rfl) (fun Γ hk hR hT => ?_)
  change GG Δ m_Eng_end Γ NN 0 0 (I, X) 0 [some (.ref (Δ.ba + 0)), some (.int (x1))] []
  unfold f_Eng_end at h
  refine g_iload_n (pc := 0) (dd d_Eng_end 0 rfl) rfl ?_
  refine g_iflt (pc := 1) (tgt := 15) (dd d_Eng_end 1 rfl) (by decide) (fun q1 => ?_) (fun q1 => ?_)
  · replace h := ite_t h q1
    refine g_drop [0, 1] ?_
    exact gb_Eng_end_15 hX hk hT  h
  · replace h := ite_f h q1
    refine g_iload_n (pc := 4) (dd d_Eng_end 2 rfl) rfl ?_
    refine g_aload_n (pc := 5) (dd d_Eng_end 3 rfl) rfl ?_
    refine g_getr (pc := 6) (dd d_Eng_end 4 rfl) f_Eng_12 oc_Eng rfl (rx_Eng_0 hX) ?_
    refine g_geti (pc := 9) (dd d_Eng_end 5 rfl) f_Eng_84 oc_Rdr rfl ?_
    refine g_icmple (pc := 12) (tgt := 25) (dd d_Eng_end 6 rfl) (by decide) (fun q2 => ?_) (fun q2 => ?_)
    · replace h := ite_t h q2
      refine g_aload_n (pc := 25) (dd d_Eng_end 12 rfl) rfl ?_
      refine g_getr (pc := 26) (dd d_Eng_end 13 rfl) f_Eng_12 oc_Eng rfl (rx_Eng_0 hX) ?_
      refine g_iload_n (pc := 29) (dd d_Eng_end 14 rfl) rfl ?_
      refine g_putiN (pc := 30) (dd d_Eng_end 15 rfl) f_Eng_84 fm_Rdr_0 oc_Rdr rfl (fun I3 hI3 => ?_)
      replace h := lt_e h hI3
      cases h
      exact g_vret (pc := 33) rfl (dd d_Eng_end 16 rfl) hT
    · replace h := ite_f h q2
      refine g_drop [0, 1] ?_
      exact gb_Eng_end_15 hX hk hT  h
def b_Eng_codeOf_10 (hd : Nat) (I : IM)   : Option (Int32) := none
set_option maxRecDepth 20000 in
set_option maxHeartbeats 4000000 in
theorem gb_Eng_codeOf_10 {Δ : Dx} {X : Lx} {rl hd ot pt it : Nat} (hX : EX Δ X rl hd ot pt it)   {I : IM} {Γ : Cx} (hk : Γ.k = 0) {r : Int32} (hT : Tg Δ Γ (some (.int r)) NN (I, X) 0 0)   (h : b_Eng_codeOf_10 hd I   = some r) : GG Δ m_Eng_codeOf Γ NN 0 0 (I, X) 10 [none, none, none] [] := by
  unfold b_Eng_codeOf_10 at h
  cases h
def b_Eng_codeOf_29 (hd : Nat) (I : IM)   : Option (Int32) := none
set_option maxRecDepth 20000 in
set_option maxHeartbeats 4000000 in
theorem gb_Eng_codeOf_29 {Δ : Dx} {X : Lx} {rl hd ot pt it : Nat} (hX : EX Δ X rl hd ot pt it)   {I : IM} {Γ : Cx} (hk : Γ.k = 0) {r : Int32} (hT : Tg Δ Γ (some (.int r)) NN (I, X) 0 0)   (h : b_Eng_codeOf_29 hd I   = some r) : GG Δ m_Eng_codeOf Γ NN 0 0 (I, X) 29 [none, none, none] [] := by
  unfold b_Eng_codeOf_29 at h
  cases h
def b_Eng_codeOf_64 (hd : Nat) (I : IM)  (y0 : Int32) : Option (Int32) := some (y0)
set_option maxRecDepth 20000 in
set_option maxHeartbeats 4000000 in
theorem gb_Eng_codeOf_64 {Δ : Dx} {X : Lx} {rl hd ot pt it : Nat} (hX : EX Δ X rl hd ot pt it)   {I : IM} {Γ : Cx} (hk : Γ.k = 0) {r : Int32} (hT : Tg Δ Γ (some (.int r)) NN (I, X) 0 0)  {y0 : Int32} (h : b_Eng_codeOf_64 hd I  y0 = some r) : GG Δ m_Eng_codeOf Γ NN 0 0 (I, X) 64 [none, none, none] [.int (y0)] := by
  unfold b_Eng_codeOf_64 at h
  cases h
  exact g_iret (pc := 64) rfl (dd d_Eng_codeOf 33 rfl) hT
def f_Eng_codeOf (hd : Nat) (x1 : Int32) (x2 : Int32) (I : IM) : Option (Int32) := if x1 < 0 then (b_Eng_codeOf_10 hd I  ) else (if x1 < (64 : Int32) then (if x2 < 0 then (b_Eng_codeOf_29 hd I  ) else (if x2 ≤ (1 : Int32) then (if x2 = 0 then (chk (inb x1 64) <| b_Eng_codeOf_64 hd I  (I (hd + 1) x1.toNatClampNeg)) else (chk (inb x1 64) <| b_Eng_codeOf_64 hd I  (I (hd + 2) x1.toNatClampNeg))) else (b_Eng_codeOf_29 hd I  ))) else (b_Eng_codeOf_10 hd I  ))
set_option maxRecDepth 20000 in
set_option maxHeartbeats 4000000 in
theorem ef_Eng_codeOf {Δ : Dx} {X : Lx} {rl hd ot pt it : Nat} (hX : EX Δ X rl hd ot pt it) {x1 : Int32} {x2 : Int32}  {I : IM}  {r : Int32} (h : f_Eng_codeOf hd x1 x2 I = some r) : Ev Δ (0) m_Eng_codeOf [.ref (Δ.ba + 0), .int x1, .int x2] (I, X) (some (.int r)) (I, X) := by
  refine ev_of (by decide) (Nat.le_of_ble_eq_true rfl) (fun Γ hk hR hT => ?_)
  change GG Δ m_Eng_codeOf Γ NN 0 0 (I, X) 0 [some (.ref (Δ.ba + 0)), some (.int (x1)), some (.int (x2))] []
  unfold f_Eng_codeOf at h
  refine g_iload_n (pc := 0) (dd d_Eng_codeOf 0 rfl) rfl ?_
  refine g_iflt (pc := 1) (tgt := 10) (dd d_Eng_codeOf 1 rfl) (by decide) (fun q1 => ?_) (fun q1 => ?_)
  · replace h := ite_t h q1
    refine g_drop [0, 1, 2] ?_
    exact gb_Eng_codeOf_10 hX hk hT  h
  · replace h := ite_f h q1
    refine g_iload_n (pc := 4) (dd d_Eng_codeOf 2 rfl) rfl ?_
    refine g_bipush (pc := 5) (v := 64) (dd d_Eng_codeOf 3 rfl) (by decide) ?_
    refine g_icmplt (pc := 7) (tgt := 20) (dd d_Eng_codeOf 4 rfl) (by decide) (fun q2 => ?_) (fun q2 => ?_)
    · replace h := ite_t h q2
      refine g_iload_n (pc := 20) (dd d_Eng_codeOf 10 rfl) rfl ?_
      refine g_iflt (pc := 21) (tgt := 29) (dd d_Eng_codeOf 11 rfl) (by decide) (fun q3 => ?_) (fun q3 => ?_)
      · replace h := ite_t h q3
        refine g_drop [0, 1, 2] ?_
        exact gb_Eng_codeOf_29 hX hk hT  h
      · replace h := ite_f h q3
        refine g_iload_n (pc := 24) (dd d_Eng_codeOf 12 rfl) rfl ?_
        refine g_iconst (pc := 25) (v := 1) (dd d_Eng_codeOf 13 rfl) (by decide) ?_
        refine g_icmple (pc := 26) (tgt := 39) (dd d_Eng_codeOf 14 rfl) (by decide) (fun q4 => ?_) (fun q4 => ?_)
        · replace h := ite_t h q4
          refine g_iload_n (pc := 39) (dd d_Eng_codeOf 20 rfl) rfl ?_
          refine g_ifne (pc := 40) (tgt := 55) (dd d_Eng_codeOf 21 rfl) (by decide) (fun q5 => ?_) (fun q5 => ?_)
          · replace h := ite_f h q5
            refine g_aload_n (pc := 55) (dd d_Eng_codeOf 28 rfl) rfl ?_
            refine g_getr (pc := 56) (dd d_Eng_codeOf 29 rfl) f_Eng_66 oc_Eng rfl hX.r_hd ?_
            refine g_getr (pc := 59) (dd d_Eng_codeOf 30 rfl) f_Eng_123 (oc_Mch hX.i_hd) rfl (rx_Mch_4 hX hX.i_hd) ?_
            refine g_iload_n (pc := 62) (dd d_Eng_codeOf 31 rfl) rfl ?_
            obtain ⟨c6, h⟩ := chk_e h
            refine g_iald (pc := 63) (dd d_Eng_codeOf 32 rfl) (ax_Mch_4 hX.i_hd) c6 ?_
            refine g_drop [0, 1, 2] ?_
            exact gb_Eng_codeOf_64 hX hk hT  h
          · replace h := ite_t h q5
            refine g_aload_n (pc := 43) (dd d_Eng_codeOf 22 rfl) rfl ?_
            refine g_getr (pc := 44) (dd d_Eng_codeOf 23 rfl) f_Eng_66 oc_Eng rfl hX.r_hd ?_
            refine g_getr (pc := 47) (dd d_Eng_codeOf 24 rfl) f_Eng_119 (oc_Mch hX.i_hd) rfl (rx_Mch_3 hX hX.i_hd) ?_
            refine g_iload_n (pc := 50) (dd d_Eng_codeOf 25 rfl) rfl ?_
            obtain ⟨c7, h⟩ := chk_e h
            refine g_iald (pc := 51) (dd d_Eng_codeOf 26 rfl) (ax_Mch_3 hX.i_hd) c7 ?_
            refine g_goto (pc := 52) (tgt := 64) (dd d_Eng_codeOf 27 rfl) (by decide) ?_
            refine g_drop [0, 1, 2] ?_
            exact gb_Eng_codeOf_64 hX hk hT  h
        · replace h := ite_f h q4
          refine g_drop [0, 1, 2] ?_
          exact gb_Eng_codeOf_29 hX hk hT  h
    · replace h := ite_f h q2
      refine g_drop [0, 1, 2] ?_
      exact gb_Eng_codeOf_10 hX hk hT  h
def f_Rng_empty (x0 : Nat) (I : IM) : Option (IM) := lt (up I x0 0 (0)) fun I1 => lt (up I1 x0 1 (0)) fun I2 => some I2
set_option maxRecDepth 20000 in
set_option maxHeartbeats 4000000 in
theorem ef_Rng_empty {Δ : Dx} {X : Lx} {rl hd ot pt it : Nat} (hX : EX Δ X rl hd ot pt it) {x0 : Nat} (h_x0 : isRng x0) {I : IM}  {r : IM} (h : f_Rng_empty x0 I = some r) : Ev Δ (0) m_Rng_empty [.ref (Δ.ba + x0)] (I, X) none (r, X) := by
  refine ev_of (by decide) (Nat.le_of_ble_eq_true rfl) (fun Γ hk hR hT => ?_)
  change GG Δ m_Rng_empty Γ NN 0 0 (I, X) 0 [some (.ref (Δ.ba + x0))] []
  unfold f_Rng_empty at h
  refine g_aload_n (pc := 0) (dd d_Rng_empty 0 rfl) rfl ?_
  refine g_iconst (pc := 1) (v := 0) (dd d_Rng_empty 1 rfl) (by decide) ?_
  refine g_putiN (pc := 2) (dd d_Rng_empty 2 rfl) f_Rng_22 fm_Rng_0 (oc_Rng h_x0) rfl (fun I1 hI1 => ?_)
  replace h := lt_e h hI1
  refine g_aload_n (pc := 5) (dd d_Rng_empty 3 rfl) rfl ?_
  refine g_iconst (pc := 6) (v := 0) (dd d_Rng_empty 4 rfl) (by decide) ?_
  refine g_putiN (pc := 7) (dd d_Rng_empty 5 rfl) f_Rng_25 fm_Rng_1 (oc_Rng h_x0) rfl (fun I2 hI2 => ?_)
  replace h := lt_e h hI2
  cases h
  exact g_vret (pc := 10) rfl (dd d_Rng_empty 6 rfl) hT
def f_Mch_restart (x0 : Nat) (x1 : Int32) (I : IM) : Option (IM) := lt (up I x0 0 (x1)) fun I1 => lt (up I1 x0 1 ((-1))) fun I2 => lt (up I2 x0 2 ((-1))) fun I3 => lt (fil I3 (x0 + 1) 64 (0)) fun I4 => lt (fil I4 (x0 + 2) 64 (0)) fun I5 => lt (fil I5 (x0 + 3) 96 (0)) fun I6 => lt (fil I6 (x0 + 4) 96 (0)) fun I7 => lt (fil I7 (x0 + 5) 96 (0)) fun I8 => lt (fil I8 (x0 + 6) 9 (0)) fun I9 => lt (fil I9 (x0 + 7) 9 (0)) fun I10 => lt (fil I10 (x0 + 13) 8 (0)) fun I11 => lt (fil I11 (x0 + 14) 88 (0)) fun I12 => Option.bind (f_Rng_empty  (x0 + 15) I12) fun v13 => Option.bind (f_Rng_empty  (x0 + 17) v13) fun v15 => some v15
set_option maxRecDepth 20000 in
set_option maxHeartbeats 4000000 in
theorem ef_Mch_restart {Δ : Dx} {X : Lx} {rl hd ot pt it : Nat} (hX : EX Δ X rl hd ot pt it) {x0 : Nat} {x1 : Int32} (h_x0 : isMch x0) {I : IM}  {r : IM} (h : f_Mch_restart x0 x1 I = some r) : Ev Δ (4) m_Mch_restart [.ref (Δ.ba + x0), .int x1] (I, X) none (r, X) := by
  refine ev_of (by decide) (Nat.le_of_ble_eq_true rfl) (fun Γ hk hR hT => ?_)
  change GG Δ m_Mch_restart Γ NN 0 0 (I, X) 0 [some (.ref (Δ.ba + x0)), some (.int (x1))] []
  unfold f_Mch_restart at h
  refine g_aload_n (pc := 0) (dd d_Mch_restart 0 rfl) rfl ?_
  refine g_iload_n (pc := 1) (dd d_Mch_restart 1 rfl) rfl ?_
  refine g_putiN (pc := 2) (dd d_Mch_restart 2 rfl) f_Mch_73 fm_Mch_0 (oc_Mch h_x0) rfl (fun I1 hI1 => ?_)
  replace h := lt_e h hI1
  refine g_aload_n (pc := 5) (dd d_Mch_restart 3 rfl) rfl ?_
  refine g_iconst (pc := 6) (v := (-1)) (dd d_Mch_restart 4 rfl) (by decide) ?_
  refine g_putiN (pc := 7) (dd d_Mch_restart 5 rfl) f_Mch_66 fm_Mch_1 (oc_Mch h_x0) rfl (fun I2 hI2 => ?_)
  replace h := lt_e h hI2
  refine g_aload_n (pc := 10) (dd d_Mch_restart 6 rfl) rfl ?_
  refine g_iconst (pc := 11) (v := (-1)) (dd d_Mch_restart 7 rfl) (by decide) ?_
  refine g_putiN (pc := 12) (dd d_Mch_restart 8 rfl) f_Mch_70 fm_Mch_2 (oc_Mch h_x0) rfl (fun I3 hI3 => ?_)
  replace h := lt_e h hI3
  refine g_aload_n (pc := 15) (dd d_Mch_restart 9 rfl) rfl ?_
  refine g_getr (pc := 16) (dd d_Mch_restart 10 rfl) f_Mch_9 (oc_Mch h_x0) rfl (rx_Mch_3 hX h_x0) ?_
  refine g_iconst (pc := 19) (v := 0) (dd d_Mch_restart 11 rfl) (by decide) ?_
  refine g_callS (pc := 20) (dd d_Mch_restart 12 rfl) s_Mch_76 (ev_fill (N := 64) (0) (ax_Mch_3 h_x0) (by decide)) rfl (by omega) (Nat.le_of_ble_eq_true rfl) ⟨Nat.zero_le _, Nat.zero_le _⟩ rfl ?_
  obtain ⟨I4, hI4⟩ : ∃ z, z = fil I3 (x0 + 1) 64 (0) := ⟨_, rfl⟩
  rw [show fillI (I3, X) (x0 + 1) 64 (0) = (I4, X) from by rw [hI4]; rfl]
  replace h := lt_e h hI4
  refine g_aload_n (pc := 23) (dd d_Mch_restart 13 rfl) rfl ?_
  refine g_getr (pc := 24) (dd d_Mch_restart 14 rfl) f_Mch_15 (oc_Mch h_x0) rfl (rx_Mch_4 hX h_x0) ?_
  refine g_iconst (pc := 27) (v := 0) (dd d_Mch_restart 15 rfl) (by decide) ?_
  refine g_callS (pc := 28) (dd d_Mch_restart 16 rfl) s_Mch_76 (ev_fill (N := 64) (0) (ax_Mch_4 h_x0) (by decide)) rfl (by omega) (Nat.le_of_ble_eq_true rfl) ⟨Nat.zero_le _, Nat.zero_le _⟩ rfl ?_
  obtain ⟨I5, hI5⟩ : ∃ z, z = fil I4 (x0 + 2) 64 (0) := ⟨_, rfl⟩
  rw [show fillI (I4, X) (x0 + 2) 64 (0) = (I5, X) from by rw [hI5]; rfl]
  replace h := lt_e h hI5
  refine g_aload_n (pc := 31) (dd d_Mch_restart 17 rfl) rfl ?_
  refine g_getr (pc := 32) (dd d_Mch_restart 18 rfl) f_Mch_18 (oc_Mch h_x0) rfl (rx_Mch_5 hX h_x0) ?_
  refine g_iconst (pc := 35) (v := 0) (dd d_Mch_restart 19 rfl) (by decide) ?_
  refine g_callS (pc := 36) (dd d_Mch_restart 20 rfl) s_Mch_76 (ev_fill (N := 96) (0) (ax_Mch_5 h_x0) (by decide)) rfl (by omega) (Nat.le_of_ble_eq_true rfl) ⟨Nat.zero_le _, Nat.zero_le _⟩ rfl ?_
  obtain ⟨I6, hI6⟩ : ∃ z, z = fil I5 (x0 + 3) 96 (0) := ⟨_, rfl⟩
  rw [show fillI (I5, X) (x0 + 3) 96 (0) = (I6, X) from by rw [hI6]; rfl]
  replace h := lt_e h hI6
  refine g_aload_n (pc := 39) (dd d_Mch_restart 21 rfl) rfl ?_
  refine g_getr (pc := 40) (dd d_Mch_restart 22 rfl) f_Mch_21 (oc_Mch h_x0) rfl (rx_Mch_6 hX h_x0) ?_
  refine g_iconst (pc := 43) (v := 0) (dd d_Mch_restart 23 rfl) (by decide) ?_
  refine g_callS (pc := 44) (dd d_Mch_restart 24 rfl) s_Mch_76 (ev_fill (N := 96) (0) (ax_Mch_6 h_x0) (by decide)) rfl (by omega) (Nat.le_of_ble_eq_true rfl) ⟨Nat.zero_le _, Nat.zero_le _⟩ rfl ?_
  obtain ⟨I7, hI7⟩ : ∃ z, z = fil I6 (x0 + 4) 96 (0) := ⟨_, rfl⟩
  rw [show fillI (I6, X) (x0 + 4) 96 (0) = (I7, X) from by rw [hI7]; rfl]
  replace h := lt_e h hI7
  refine g_aload_n (pc := 47) (dd d_Mch_restart 25 rfl) rfl ?_
  refine g_getr (pc := 48) (dd d_Mch_restart 26 rfl) f_Mch_24 (oc_Mch h_x0) rfl (rx_Mch_7 hX h_x0) ?_
  refine g_iconst (pc := 51) (v := 0) (dd d_Mch_restart 27 rfl) (by decide) ?_
  refine g_callS (pc := 52) (dd d_Mch_restart 28 rfl) s_Mch_76 (ev_fill (N := 96) (0) (ax_Mch_7 h_x0) (by decide)) rfl (by omega) (Nat.le_of_ble_eq_true rfl) ⟨Nat.zero_le _, Nat.zero_le _⟩ rfl ?_
  obtain ⟨I8, hI8⟩ : ∃ z, z = fil I7 (x0 + 5) 96 (0) := ⟨_, rfl⟩
  rw [show fillI (I7, X) (x0 + 5) 96 (0) = (I8, X) from by rw [hI8]; rfl]
  replace h := lt_e h hI8
  refine g_aload_n (pc := 55) (dd d_Mch_restart 29 rfl) rfl ?_
  refine g_getr (pc := 56) (dd d_Mch_restart 30 rfl) f_Mch_27 (oc_Mch h_x0) rfl (rx_Mch_8 hX h_x0) ?_
  refine g_iconst (pc := 59) (v := 0) (dd d_Mch_restart 31 rfl) (by decide) ?_
  refine g_callS (pc := 60) (dd d_Mch_restart 32 rfl) s_Mch_76 (ev_fill (N := 9) (0) (ax_Mch_8 h_x0) (by decide)) rfl (by omega) (Nat.le_of_ble_eq_true rfl) ⟨Nat.zero_le _, Nat.zero_le _⟩ rfl ?_
  obtain ⟨I9, hI9⟩ : ∃ z, z = fil I8 (x0 + 6) 9 (0) := ⟨_, rfl⟩
  rw [show fillI (I8, X) (x0 + 6) 9 (0) = (I9, X) from by rw [hI9]; rfl]
  replace h := lt_e h hI9
  refine g_aload_n (pc := 63) (dd d_Mch_restart 33 rfl) rfl ?_
  refine g_getr (pc := 64) (dd d_Mch_restart 34 rfl) f_Mch_30 (oc_Mch h_x0) rfl (rx_Mch_9 hX h_x0) ?_
  refine g_iconst (pc := 67) (v := 0) (dd d_Mch_restart 35 rfl) (by decide) ?_
  refine g_callS (pc := 68) (dd d_Mch_restart 36 rfl) s_Mch_76 (ev_fill (N := 9) (0) (ax_Mch_9 h_x0) (by decide)) rfl (by omega) (Nat.le_of_ble_eq_true rfl) ⟨Nat.zero_le _, Nat.zero_le _⟩ rfl ?_
  obtain ⟨I10, hI10⟩ : ∃ z, z = fil I9 (x0 + 7) 9 (0) := ⟨_, rfl⟩
  rw [show fillI (I9, X) (x0 + 7) 9 (0) = (I10, X) from by rw [hI10]; rfl]
  replace h := lt_e h hI10
  refine g_aload_n (pc := 71) (dd d_Mch_restart 37 rfl) rfl ?_
  refine g_getr (pc := 72) (dd d_Mch_restart 38 rfl) f_Mch_48 (oc_Mch h_x0) rfl (rx_Mch_15 hX h_x0) ?_
  refine g_iconst (pc := 75) (v := 0) (dd d_Mch_restart 39 rfl) (by decide) ?_
  refine g_callS (pc := 76) (dd d_Mch_restart 40 rfl) s_Mch_76 (ev_fill (N := 8) (0) (ax_Mch_15 h_x0) (by decide)) rfl (by omega) (Nat.le_of_ble_eq_true rfl) ⟨Nat.zero_le _, Nat.zero_le _⟩ rfl ?_
  obtain ⟨I11, hI11⟩ : ∃ z, z = fil I10 (x0 + 13) 8 (0) := ⟨_, rfl⟩
  rw [show fillI (I10, X) (x0 + 13) 8 (0) = (I11, X) from by rw [hI11]; rfl]
  replace h := lt_e h hI11
  refine g_aload_n (pc := 79) (dd d_Mch_restart 41 rfl) rfl ?_
  refine g_getr (pc := 80) (dd d_Mch_restart 42 rfl) f_Mch_51 (oc_Mch h_x0) rfl (rx_Mch_16 hX h_x0) ?_
  refine g_iconst (pc := 83) (v := 0) (dd d_Mch_restart 43 rfl) (by decide) ?_
  refine g_callS (pc := 84) (dd d_Mch_restart 44 rfl) s_Mch_76 (ev_fill (N := 88) (0) (ax_Mch_16 h_x0) (by decide)) rfl (by omega) (Nat.le_of_ble_eq_true rfl) ⟨Nat.zero_le _, Nat.zero_le _⟩ rfl ?_
  obtain ⟨I12, hI12⟩ : ∃ z, z = fil I11 (x0 + 14) 88 (0) := ⟨_, rfl⟩
  rw [show fillI (I11, X) (x0 + 14) 88 (0) = (I12, X) from by rw [hI12]; rfl]
  replace h := lt_e h hI12
  refine g_aload_n (pc := 87) (dd d_Mch_restart 45 rfl) rfl ?_
  refine g_getr (pc := 88) (dd d_Mch_restart 46 rfl) f_Mch_59 (oc_Mch h_x0) rfl (rx_Mch_17 hX h_x0) ?_
  obtain ⟨v13, e14, h⟩ := bnd_e h
  refine g_callV (pc := 91) (dd d_Mch_restart 47 rfl) v_Mch_82 (oc_Rng (ir_17 h_x0)) rfl (ef_Rng_empty hX (ir_17 h_x0) e14) rfl (by omega) (Nat.le_of_ble_eq_true rfl) ⟨Nat.zero_le _, Nat.zero_le _⟩ rfl ?_
  refine g_aload_n (pc := 94) (dd d_Mch_restart 48 rfl) rfl ?_
  refine g_getr (pc := 95) (dd d_Mch_restart 49 rfl) f_Mch_63 (oc_Mch h_x0) rfl (rx_Mch_18 hX h_x0) ?_
  obtain ⟨v15, e16, h⟩ := bnd_e h
  refine g_callV (pc := 98) (dd d_Mch_restart 50 rfl) v_Mch_82 (oc_Rng (ir_18 h_x0)) rfl (ef_Rng_empty hX (ir_18 h_x0) e16) rfl (by omega) (Nat.le_of_ble_eq_true rfl) ⟨Nat.zero_le _, Nat.zero_le _⟩ rfl ?_
  cases h
  exact g_vret (pc := 101) rfl (dd d_Mch_restart 51 rfl) hT
def f_Eng_begin (hd : Nat) (x1 : Int32) (I : IM) : Option (IM) := Option.bind (f_Mch_restart  hd x1 I) fun v1 => some v1
set_option maxRecDepth 20000 in
set_option maxHeartbeats 4000000 in
theorem ef_Eng_begin {Δ : Dx} {X : Lx} {rl hd ot pt it : Nat} (hX : EX Δ X rl hd ot pt it) {x1 : Int32}  {I : IM}  {r : IM} (h : f_Eng_begin hd x1 I = some r) : Ev Δ (5) m_Eng_begin [.ref (Δ.ba + 0), .int x1] (I, X) none (r, X) := by
  refine ev_of (by decide) (Nat.le_of_ble_eq_true rfl) (fun Γ hk hR hT => ?_)
  change GG Δ m_Eng_begin Γ NN 0 0 (I, X) 0 [some (.ref (Δ.ba + 0)), some (.int (x1))] []
  unfold f_Eng_begin at h
  refine g_aload_n (pc := 0) (dd d_Eng_begin 0 rfl) rfl ?_
  refine g_getr (pc := 1) (dd d_Eng_begin 1 rfl) f_Eng_66 oc_Eng rfl hX.r_hd ?_
  refine g_iload_n (pc := 4) (dd d_Eng_begin 2 rfl) rfl ?_
  obtain ⟨v1, e2, h⟩ := bnd_e h
  refine g_callV (pc := 5) (dd d_Eng_begin 3 rfl) v_Eng_140 (oc_Mch hX.i_hd) rfl (ef_Mch_restart hX hX.i_hd e2) rfl (by omega) (Nat.le_of_ble_eq_true rfl) ⟨Nat.zero_le _, Nat.zero_le _⟩ rfl ?_
  cases h
  exact g_vret (pc := 8) rfl (dd d_Eng_begin 4 rfl) hT
def b_Mch_setCode_24 (x0 : Nat)   (I : IM) : Option (IM) := some I
set_option maxRecDepth 20000 in
set_option maxHeartbeats 4000000 in
theorem gb_Mch_setCode_24 {Δ : Dx} {X : Lx} {rl hd ot pt it : Nat} (hX : EX Δ X rl hd ot pt it) {x0 : Nat} (h_x0 : isMch x0)  {Γ : Cx} (hk : Γ.k = 0) {r : IM} (hT : Tg Δ Γ none NN (r, X) 0 0)   {I : IM} (h : b_Mch_setCode_24 x0   I = some r) : GG Δ m_Mch_setCode Γ NN 0 0 (I, X) 24 [none, none, none, none] [] := by
  unfold b_Mch_setCode_24 at h
  cases h
  exact g_vret (pc := 24) rfl (dd d_Mch_setCode 15 rfl) hT
def f_Mch_setCode (x0 : Nat) (x1 : Int32) (x2 : Int32) (x3 : Int32) (I : IM) : Option (IM) := if x1 < 0 then (b_Mch_setCode_24 x0  I) else (if (64 : Int32) ≤ x1 then (b_Mch_setCode_24 x0  I) else (chk (inb x1 64) <| lt (up I (x0 + 1) x1.toNatClampNeg (x2)) fun I4 => lt (up I4 (x0 + 2) x1.toNatClampNeg (x3)) fun I5 => b_Mch_setCode_24 x0  I5))
set_option maxRecDepth 20000 in
set_option maxHeartbeats 4000000 in
theorem ef_Mch_setCode {Δ : Dx} {X : Lx} {rl hd ot pt it : Nat} (hX : EX Δ X rl hd ot pt it) {x0 : Nat} {x1 : Int32} {x2 : Int32} {x3 : Int32} (h_x0 : isMch x0) {I : IM}  {r : IM} (h : f_Mch_setCode x0 x1 x2 x3 I = some r) : Ev Δ (0) m_Mch_setCode [.ref (Δ.ba + x0), .int x1, .int x2, .int x3] (I, X) none (r, X) := by
  refine ev_of (by decide) (Nat.le_of_ble_eq_true rfl) (fun Γ hk hR hT => ?_)
  change GG Δ m_Mch_setCode Γ NN 0 0 (I, X) 0 [some (.ref (Δ.ba + x0)), some (.int (x1)), some (.int (x2)), some (.int (x3))] []
  unfold f_Mch_setCode at h
  refine g_iload_n (pc := 0) (dd d_Mch_setCode 0 rfl) rfl ?_
  refine g_iflt (pc := 1) (tgt := 24) (dd d_Mch_setCode 1 rfl) (by decide) (fun q1 => ?_) (fun q1 => ?_)
  · replace h := ite_t h q1
    refine g_drop [0, 1, 2, 3] ?_
    exact gb_Mch_setCode_24 hX h_x0 hk hT  h
  · replace h := ite_f h q1
    refine g_iload_n (pc := 4) (dd d_Mch_setCode 2 rfl) rfl ?_
    refine g_bipush (pc := 5) (v := 64) (dd d_Mch_setCode 3 rfl) (by decide) ?_
    refine g_icmpge (pc := 7) (tgt := 24) (dd d_Mch_setCode 4 rfl) (by decide) (fun q2 => ?_) (fun q2 => ?_)
    · replace h := ite_t h q2
      refine g_drop [0, 1, 2, 3] ?_
      exact gb_Mch_setCode_24 hX h_x0 hk hT  h
    · replace h := ite_f h q2
      refine g_aload_n (pc := 10) (dd d_Mch_setCode 5 rfl) rfl ?_
      refine g_getr (pc := 11) (dd d_Mch_setCode 6 rfl) f_Mch_9 (oc_Mch h_x0) rfl (rx_Mch_3 hX h_x0) ?_
      refine g_iload_n (pc := 14) (dd d_Mch_setCode 7 rfl) rfl ?_
      refine g_iload_n (pc := 15) (dd d_Mch_setCode 8 rfl) rfl ?_
      obtain ⟨c3, h⟩ := chk_e h
      refine g_iastN (pc := 16) (dd d_Mch_setCode 9 rfl) (ax_Mch_3 h_x0) c3 (fun I4 hI4 => ?_)
      replace h := lt_e h hI4
      refine g_aload_n (pc := 17) (dd d_Mch_setCode 10 rfl) rfl ?_
      refine g_getr (pc := 18) (dd d_Mch_setCode 11 rfl) f_Mch_15 (oc_Mch h_x0) rfl (rx_Mch_4 hX h_x0) ?_
      refine g_iload_n (pc := 21) (dd d_Mch_setCode 12 rfl) rfl ?_
      refine g_iload_n (pc := 22) (dd d_Mch_setCode 13 rfl) rfl ?_
      refine g_iastN (pc := 23) (dd d_Mch_setCode 14 rfl) (ax_Mch_4 h_x0) c3 (fun I5 hI5 => ?_)
      replace h := lt_e h hI5
      refine g_drop [0, 1, 2, 3] ?_
      exact gb_Mch_setCode_24 hX h_x0 hk hT  h
def b_Eng_code_10 (hd : Nat)   (I : IM) : Option (IM) := none
set_option maxRecDepth 20000 in
set_option maxHeartbeats 4000000 in
theorem gb_Eng_code_10 {Δ : Dx} {X : Lx} {rl hd ot pt it : Nat} (hX : EX Δ X rl hd ot pt it)    {Γ : Cx} (hk : Γ.k = 1) {r : IM} (hT : Tg Δ Γ none NN (r, X) 0 0)   {I : IM} (h : b_Eng_code_10 hd   I = some r) : GG Δ m_Eng_code Γ NN 0 0 (I, X) 10 [none, none, none, none] [] := by
  unfold b_Eng_code_10 at h
  cases h
def f_Eng_code (hd : Nat) (x1 : Int32) (x2 : Int32) (x3 : Int32) (I : IM) : Option (IM) := if x1 < 0 then (b_Eng_code_10 hd  I) else (if x1 < (64 : Int32) then (Option.bind (f_Mch_setCode  hd x1 x2 x3 I) fun v3 => some v3) else (b_Eng_code_10 hd  I))
set_option maxRecDepth 20000 in
set_option maxHeartbeats 4000000 in
theorem ef_Eng_code {Δ : Dx} {X : Lx} {rl hd ot pt it : Nat} (hX : EX Δ X rl hd ot pt it) {x1 : Int32} {x2 : Int32} {x3 : Int32}  {I : IM}  {r : IM} (h : f_Eng_code hd x1 x2 x3 I = some r) : Ev Δ (1) m_Eng_code [.ref (Δ.ba + 0), .int x1, .int x2, .int x3] (I, X) none (r, X) := by
  refine ev_of (by decide) (Nat.le_of_ble_eq_true rfl) (fun Γ hk hR hT => ?_)
  change GG Δ m_Eng_code Γ NN 0 0 (I, X) 0 [some (.ref (Δ.ba + 0)), some (.int (x1)), some (.int (x2)), some (.int (x3))] []
  unfold f_Eng_code at h
  refine g_iload_n (pc := 0) (dd d_Eng_code 0 rfl) rfl ?_
  refine g_iflt (pc := 1) (tgt := 10) (dd d_Eng_code 1 rfl) (by decide) (fun q1 => ?_) (fun q1 => ?_)
  · replace h := ite_t h q1
    refine g_drop [0, 1, 2, 3] ?_
    exact gb_Eng_code_10 hX hk hT  h
  · replace h := ite_f h q1
    refine g_iload_n (pc := 4) (dd d_Eng_code 2 rfl) rfl ?_
    refine g_bipush (pc := 5) (v := 64) (dd d_Eng_code 3 rfl) (by decide) ?_
    refine g_icmplt (pc := 7) (tgt := 20) (dd d_Eng_code 4 rfl) (by decide) (fun q2 => ?_) (fun q2 => ?_)
    · replace h := ite_t h q2
      refine g_aload_n (pc := 20) (dd d_Eng_code 10 rfl) rfl ?_
      refine g_getr (pc := 21) (dd d_Eng_code 11 rfl) f_Eng_66 oc_Eng rfl hX.r_hd ?_
      refine g_iload_n (pc := 24) (dd d_Eng_code 12 rfl) rfl ?_
      refine g_iload_n (pc := 25) (dd d_Eng_code 13 rfl) rfl ?_
      refine g_iload_n (pc := 26) (dd d_Eng_code 14 rfl) rfl ?_
      obtain ⟨v3, e4, h⟩ := bnd_e h
      refine g_callV (pc := 27) (dd d_Eng_code 15 rfl) v_Eng_143 (oc_Mch hX.i_hd) rfl (ef_Mch_setCode hX hX.i_hd e4) rfl (by omega) (Nat.le_of_ble_eq_true rfl) ⟨Nat.zero_le _, Nat.zero_le _⟩ rfl ?_
      cases h
      exact g_vret (pc := 30) rfl (dd d_Eng_code 16 rfl) hT
    · replace h := ite_f h q2
      refine g_drop [0, 1, 2, 3] ?_
      exact gb_Eng_code_10 hX hk hT  h
def f_Mch_hasWord (x0 : Nat) (x1 : Int32) (I : IM) : Option (Int32) := some (if x1 < 0 then 0 else (if (96 : Int32) ≤ x1 then 0 else 1))
set_option maxRecDepth 20000 in
set_option maxHeartbeats 4000000 in
theorem ef_Mch_hasWord {Δ : Dx} {X : Lx} {rl hd ot pt it : Nat} (hX : EX Δ X rl hd ot pt it) {x0 : Nat} {x1 : Int32} (h_x0 : isMch x0) {I : IM}  {r : Int32} (h : f_Mch_hasWord x0 x1 I = some r) : Ev Δ (0) m_Mch_hasWord [.ref (Δ.ba + x0), .int x1] (I, X) (some (.int r)) (I, X) := by
  refine ev_of (by decide) (Nat.le_of_ble_eq_true rfl) (fun Γ hk hR hT => ?_)
  change GG Δ m_Mch_hasWord Γ NN 0 0 (I, X) 0 [some (.ref (Δ.ba + x0)), some (.int (x1))] []
  unfold f_Mch_hasWord at h
  refine g_iload_n (pc := 0) (dd d_Mch_hasWord 0 rfl) rfl ?_
  suffices K1 : ∀ z : Int32, z = (if x1 < 0 then 0 else (if (96 : Int32) ≤ x1 then 0 else 1) : Int32) → GG Δ m_Mch_hasWord Γ NN 0 0 (I, X) 15 [some (.ref (Δ.ba + x0)), some (.int (x1))] [.int (z)] by
    refine g_iflt (pc := 1) (tgt := 14) (dd d_Mch_hasWord 1 rfl) (by decide) (fun q1 => ?_) (fun q1 => ?_)
    · skip
      refine g_iconst (pc := 14) (v := 0) (dd d_Mch_hasWord 7 rfl) (by decide) ?_
      exact K1 _ (by rw [if_pos q1])
    · skip
      refine g_iload_n (pc := 4) (dd d_Mch_hasWord 2 rfl) rfl ?_
      refine g_bipush (pc := 5) (v := 96) (dd d_Mch_hasWord 3 rfl) (by decide) ?_
      refine g_icmpge (pc := 7) (tgt := 14) (dd d_Mch_hasWord 4 rfl) (by decide) (fun q2 => ?_) (fun q2 => ?_)
      · skip
        refine g_iconst (pc := 14) (v := 0) (dd d_Mch_hasWord 7 rfl) (by decide) ?_
        exact K1 _ (by rw [if_neg q1, if_pos q2])
      · skip
        refine g_iconst (pc := 10) (v := 1) (dd d_Mch_hasWord 5 rfl) (by decide) ?_
        refine g_goto (pc := 11) (tgt := 15) (dd d_Mch_hasWord 6 rfl) (by decide) ?_
        exact K1 _ (by rw [if_neg q1, if_neg q2])
  intro z hz
  subst hz
  cases h
  exact g_zret (pc := 15) rfl (by (repeat' split) <;> first | exact Or.inl rfl | exact Or.inr rfl) (dd d_Mch_hasWord 8 rfl) hT
def b_Mch_setWord_30 (x0 : Nat)   (I : IM) : Option (IM) := some I
set_option maxRecDepth 20000 in
set_option maxHeartbeats 4000000 in
theorem gb_Mch_setWord_30 {Δ : Dx} {X : Lx} {rl hd ot pt it : Nat} (hX : EX Δ X rl hd ot pt it) {x0 : Nat} (h_x0 : isMch x0)  {Γ : Cx} (hk : Γ.k = 1) {r : IM} (hT : Tg Δ Γ none NN (r, X) 0 0)   {I : IM} (h : b_Mch_setWord_30 x0   I = some r) : GG Δ m_Mch_setWord Γ NN 0 0 (I, X) 30 [none, none, none, none, none] [] := by
  unfold b_Mch_setWord_30 at h
  cases h
  exact g_vret (pc := 30) rfl (dd d_Mch_setWord 19 rfl) hT
def f_Mch_setWord (x0 : Nat) (x1 : Int32) (x2 : Int32) (x3 : Int32) (x4 : Int32) (I : IM) : Option (IM) := Option.bind (f_Mch_hasWord  x0 x1 I) fun v1 => if v1 = 0 then (b_Mch_setWord_30 x0  I) else (chk (inb x1 96) <| lt (up I (x0 + 3) x1.toNatClampNeg (x2)) fun I5 => lt (up I5 (x0 + 4) x1.toNatClampNeg (x3)) fun I6 => lt (up I6 (x0 + 5) x1.toNatClampNeg (x4)) fun I7 => b_Mch_setWord_30 x0  I7)
set_option maxRecDepth 20000 in
set_option maxHeartbeats 4000000 in
theorem ef_Mch_setWord {Δ : Dx} {X : Lx} {rl hd ot pt it : Nat} (hX : EX Δ X rl hd ot pt it) {x0 : Nat} {x1 : Int32} {x2 : Int32} {x3 : Int32} {x4 : Int32} (h_x0 : isMch x0) {I : IM}  {r : IM} (h : f_Mch_setWord x0 x1 x2 x3 x4 I = some r) : Ev Δ (1) m_Mch_setWord [.ref (Δ.ba + x0), .int x1, .int x2, .int x3, .int x4] (I, X) none (r, X) := by
  refine ev_of (by decide) (Nat.le_of_ble_eq_true rfl) (fun Γ hk hR hT => ?_)
  change GG Δ m_Mch_setWord Γ NN 0 0 (I, X) 0 [some (.ref (Δ.ba + x0)), some (.int (x1)), some (.int (x2)), some (.int (x3)), some (.int (x4))] []
  unfold f_Mch_setWord at h
  refine g_aload_n (pc := 0) (dd d_Mch_setWord 0 rfl) rfl ?_
  refine g_iload_n (pc := 1) (dd d_Mch_setWord 1 rfl) rfl ?_
  obtain ⟨v1, e2, h⟩ := bnd_e h
  refine g_callV (pc := 2) (dd d_Mch_setWord 2 rfl) v_Mch_93 (oc_Mch h_x0) rfl (ef_Mch_hasWord hX h_x0 e2) rfl (by omega) (Nat.le_of_ble_eq_true rfl) ⟨Nat.zero_le _, Nat.zero_le _⟩ rfl ?_
  refine g_ifeq (pc := 5) (tgt := 30) (dd d_Mch_setWord 3 rfl) (by decide) (fun q3 => ?_) (fun q3 => ?_)
  · replace h := ite_t h q3
    refine g_drop [0, 1, 2, 3, 4] ?_
    exact gb_Mch_setWord_30 hX h_x0 hk hT  h
  · replace h := ite_f h q3
    refine g_aload_n (pc := 8) (dd d_Mch_setWord 4 rfl) rfl ?_
    refine g_getr (pc := 9) (dd d_Mch_setWord 5 rfl) f_Mch_18 (oc_Mch h_x0) rfl (rx_Mch_5 hX h_x0) ?_
    refine g_iload_n (pc := 12) (dd d_Mch_setWord 6 rfl) rfl ?_
    refine g_iload_n (pc := 13) (dd d_Mch_setWord 7 rfl) rfl ?_
    obtain ⟨c4, h⟩ := chk_e h
    refine g_iastN (pc := 14) (dd d_Mch_setWord 8 rfl) (ax_Mch_5 h_x0) c4 (fun I5 hI5 => ?_)
    replace h := lt_e h hI5
    refine g_aload_n (pc := 15) (dd d_Mch_setWord 9 rfl) rfl ?_
    refine g_getr (pc := 16) (dd d_Mch_setWord 10 rfl) f_Mch_21 (oc_Mch h_x0) rfl (rx_Mch_6 hX h_x0) ?_
    refine g_iload_n (pc := 19) (dd d_Mch_setWord 11 rfl) rfl ?_
    refine g_iload_n (pc := 20) (dd d_Mch_setWord 12 rfl) rfl ?_
    refine g_iastN (pc := 21) (dd d_Mch_setWord 13 rfl) (ax_Mch_6 h_x0) c4 (fun I6 hI6 => ?_)
    replace h := lt_e h hI6
    refine g_aload_n (pc := 22) (dd d_Mch_setWord 14 rfl) rfl ?_
    refine g_getr (pc := 23) (dd d_Mch_setWord 15 rfl) f_Mch_24 (oc_Mch h_x0) rfl (rx_Mch_7 hX h_x0) ?_
    refine g_iload_n (pc := 26) (dd d_Mch_setWord 16 rfl) rfl ?_
    refine g_iload (pc := 27) (dd d_Mch_setWord 17 rfl) rfl ?_
    refine g_iastN (pc := 29) (dd d_Mch_setWord 18 rfl) (ax_Mch_7 h_x0) c4 (fun I7 hI7 => ?_)
    replace h := lt_e h hI7
    refine g_drop [0, 1, 2, 3, 4] ?_
    exact gb_Mch_setWord_30 hX h_x0 hk hT  h
def b_Eng_word_10 (hd : Nat)   (I : IM) : Option (IM) := none
set_option maxRecDepth 20000 in
set_option maxHeartbeats 4000000 in
theorem gb_Eng_word_10 {Δ : Dx} {X : Lx} {rl hd ot pt it : Nat} (hX : EX Δ X rl hd ot pt it)    {Γ : Cx} (hk : Γ.k = 2) {r : IM} (hT : Tg Δ Γ none NN (r, X) 0 0)   {I : IM} (h : b_Eng_word_10 hd   I = some r) : GG Δ m_Eng_word Γ NN 0 0 (I, X) 10 [none, none, none, none, none] [] := by
  unfold b_Eng_word_10 at h
  cases h
def f_Eng_word (hd : Nat) (x1 : Int32) (x2 : Int32) (x3 : Int32) (x4 : Int32) (I : IM) : Option (IM) := if x1 < 0 then (b_Eng_word_10 hd  I) else (if x1 < (96 : Int32) then (Option.bind (f_Mch_setWord  hd x1 x2 x3 x4 I) fun v3 => some v3) else (b_Eng_word_10 hd  I))
set_option maxRecDepth 20000 in
set_option maxHeartbeats 4000000 in
theorem ef_Eng_word {Δ : Dx} {X : Lx} {rl hd ot pt it : Nat} (hX : EX Δ X rl hd ot pt it) {x1 : Int32} {x2 : Int32} {x3 : Int32} {x4 : Int32}  {I : IM}  {r : IM} (h : f_Eng_word hd x1 x2 x3 x4 I = some r) : Ev Δ (2) m_Eng_word [.ref (Δ.ba + 0), .int x1, .int x2, .int x3, .int x4] (I, X) none (r, X) := by
  refine ev_of (by decide) (Nat.le_of_ble_eq_true rfl) (fun Γ hk hR hT => ?_)
  change GG Δ m_Eng_word Γ NN 0 0 (I, X) 0 [some (.ref (Δ.ba + 0)), some (.int (x1)), some (.int (x2)), some (.int (x3)), some (.int (x4))] []
  unfold f_Eng_word at h
  refine g_iload_n (pc := 0) (dd d_Eng_word 0 rfl) rfl ?_
  refine g_iflt (pc := 1) (tgt := 10) (dd d_Eng_word 1 rfl) (by decide) (fun q1 => ?_) (fun q1 => ?_)
  · replace h := ite_t h q1
    refine g_drop [0, 1, 2, 3, 4] ?_
    exact gb_Eng_word_10 hX hk hT  h
  · replace h := ite_f h q1
    refine g_iload_n (pc := 4) (dd d_Eng_word 2 rfl) rfl ?_
    refine g_bipush (pc := 5) (v := 96) (dd d_Eng_word 3 rfl) (by decide) ?_
    refine g_icmplt (pc := 7) (tgt := 20) (dd d_Eng_word 4 rfl) (by decide) (fun q2 => ?_) (fun q2 => ?_)
    · replace h := ite_t h q2
      refine g_aload_n (pc := 20) (dd d_Eng_word 10 rfl) rfl ?_
      refine g_getr (pc := 21) (dd d_Eng_word 11 rfl) f_Eng_66 oc_Eng rfl hX.r_hd ?_
      refine g_iload_n (pc := 24) (dd d_Eng_word 12 rfl) rfl ?_
      refine g_iload_n (pc := 25) (dd d_Eng_word 13 rfl) rfl ?_
      refine g_iload_n (pc := 26) (dd d_Eng_word 14 rfl) rfl ?_
      refine g_iload (pc := 27) (dd d_Eng_word 15 rfl) rfl ?_
      obtain ⟨v3, e4, h⟩ := bnd_e h
      refine g_callV (pc := 29) (dd d_Eng_word 16 rfl) v_Eng_149 (oc_Mch hX.i_hd) rfl (ef_Mch_setWord hX hX.i_hd e4) rfl (by omega) (Nat.le_of_ble_eq_true rfl) ⟨Nat.zero_le _, Nat.zero_le _⟩ rfl ?_
      cases h
      exact g_vret (pc := 32) rfl (dd d_Eng_word 17 rfl) hT
    · replace h := ite_f h q2
      refine g_drop [0, 1, 2, 3, 4] ?_
      exact gb_Eng_word_10 hX hk hT  h
def b_Mch_setRegister_24 (x0 : Nat)   (I : IM) : Option (IM) := some I
set_option maxRecDepth 20000 in
set_option maxHeartbeats 4000000 in
theorem gb_Mch_setRegister_24 {Δ : Dx} {X : Lx} {rl hd ot pt it : Nat} (hX : EX Δ X rl hd ot pt it) {x0 : Nat} (h_x0 : isMch x0)  {Γ : Cx} (hk : Γ.k = 0) {r : IM} (hT : Tg Δ Γ none NN (r, X) 0 0)   {I : IM} (h : b_Mch_setRegister_24 x0   I = some r) : GG Δ m_Mch_setRegister Γ NN 0 0 (I, X) 24 [none, none, none, none] [] := by
  unfold b_Mch_setRegister_24 at h
  cases h
  exact g_vret (pc := 24) rfl (dd d_Mch_setRegister 15 rfl) hT
def f_Mch_setRegister (x0 : Nat) (x1 : Int32) (x2 : Int32) (x3 : Int32) (I : IM) : Option (IM) := if x1 < 0 then (b_Mch_setRegister_24 x0  I) else (if (8 : Int32) < x1 then (b_Mch_setRegister_24 x0  I) else (chk (inb x1 9) <| lt (up I (x0 + 6) x1.toNatClampNeg (x2)) fun I4 => lt (up I4 (x0 + 7) x1.toNatClampNeg (x3)) fun I5 => b_Mch_setRegister_24 x0  I5))
set_option maxRecDepth 20000 in
set_option maxHeartbeats 4000000 in
theorem ef_Mch_setRegister {Δ : Dx} {X : Lx} {rl hd ot pt it : Nat} (hX : EX Δ X rl hd ot pt it) {x0 : Nat} {x1 : Int32} {x2 : Int32} {x3 : Int32} (h_x0 : isMch x0) {I : IM}  {r : IM} (h : f_Mch_setRegister x0 x1 x2 x3 I = some r) : Ev Δ (0) m_Mch_setRegister [.ref (Δ.ba + x0), .int x1, .int x2, .int x3] (I, X) none (r, X) := by
  refine ev_of (by decide) (Nat.le_of_ble_eq_true rfl) (fun Γ hk hR hT => ?_)
  change GG Δ m_Mch_setRegister Γ NN 0 0 (I, X) 0 [some (.ref (Δ.ba + x0)), some (.int (x1)), some (.int (x2)), some (.int (x3))] []
  unfold f_Mch_setRegister at h
  refine g_iload_n (pc := 0) (dd d_Mch_setRegister 0 rfl) rfl ?_
  refine g_iflt (pc := 1) (tgt := 24) (dd d_Mch_setRegister 1 rfl) (by decide) (fun q1 => ?_) (fun q1 => ?_)
  · replace h := ite_t h q1
    refine g_drop [0, 1, 2, 3] ?_
    exact gb_Mch_setRegister_24 hX h_x0 hk hT  h
  · replace h := ite_f h q1
    refine g_iload_n (pc := 4) (dd d_Mch_setRegister 2 rfl) rfl ?_
    refine g_bipush (pc := 5) (v := 8) (dd d_Mch_setRegister 3 rfl) (by decide) ?_
    refine g_icmpgt (pc := 7) (tgt := 24) (dd d_Mch_setRegister 4 rfl) (by decide) (fun q2 => ?_) (fun q2 => ?_)
    · replace h := ite_t h q2
      refine g_drop [0, 1, 2, 3] ?_
      exact gb_Mch_setRegister_24 hX h_x0 hk hT  h
    · replace h := ite_f h q2
      refine g_aload_n (pc := 10) (dd d_Mch_setRegister 5 rfl) rfl ?_
      refine g_getr (pc := 11) (dd d_Mch_setRegister 6 rfl) f_Mch_27 (oc_Mch h_x0) rfl (rx_Mch_8 hX h_x0) ?_
      refine g_iload_n (pc := 14) (dd d_Mch_setRegister 7 rfl) rfl ?_
      refine g_iload_n (pc := 15) (dd d_Mch_setRegister 8 rfl) rfl ?_
      obtain ⟨c3, h⟩ := chk_e h
      refine g_iastN (pc := 16) (dd d_Mch_setRegister 9 rfl) (ax_Mch_8 h_x0) c3 (fun I4 hI4 => ?_)
      replace h := lt_e h hI4
      refine g_aload_n (pc := 17) (dd d_Mch_setRegister 10 rfl) rfl ?_
      refine g_getr (pc := 18) (dd d_Mch_setRegister 11 rfl) f_Mch_30 (oc_Mch h_x0) rfl (rx_Mch_9 hX h_x0) ?_
      refine g_iload_n (pc := 21) (dd d_Mch_setRegister 12 rfl) rfl ?_
      refine g_iload_n (pc := 22) (dd d_Mch_setRegister 13 rfl) rfl ?_
      refine g_iastN (pc := 23) (dd d_Mch_setRegister 14 rfl) (ax_Mch_9 h_x0) c3 (fun I5 hI5 => ?_)
      replace h := lt_e h hI5
      refine g_drop [0, 1, 2, 3] ?_
      exact gb_Mch_setRegister_24 hX h_x0 hk hT  h
def b_Eng_register_10 (hd : Nat)   (I : IM) : Option (IM) := none
set_option maxRecDepth 20000 in
set_option maxHeartbeats 4000000 in
theorem gb_Eng_register_10 {Δ : Dx} {X : Lx} {rl hd ot pt it : Nat} (hX : EX Δ X rl hd ot pt it)    {Γ : Cx} (hk : Γ.k = 1) {r : IM} (hT : Tg Δ Γ none NN (r, X) 0 0)   {I : IM} (h : b_Eng_register_10 hd   I = some r) : GG Δ m_Eng_register Γ NN 0 0 (I, X) 10 [none, none, none, none] [] := by
  unfold b_Eng_register_10 at h
  cases h
def f_Eng_register (hd : Nat) (x1 : Int32) (x2 : Int32) (x3 : Int32) (I : IM) : Option (IM) := if x1 < 0 then (b_Eng_register_10 hd  I) else (if x1 ≤ (8 : Int32) then (Option.bind (f_Mch_setRegister  hd x1 x2 x3 I) fun v3 => some v3) else (b_Eng_register_10 hd  I))
set_option maxRecDepth 20000 in
set_option maxHeartbeats 4000000 in
theorem ef_Eng_register {Δ : Dx} {X : Lx} {rl hd ot pt it : Nat} (hX : EX Δ X rl hd ot pt it) {x1 : Int32} {x2 : Int32} {x3 : Int32}  {I : IM}  {r : IM} (h : f_Eng_register hd x1 x2 x3 I = some r) : Ev Δ (1) m_Eng_register [.ref (Δ.ba + 0), .int x1, .int x2, .int x3] (I, X) none (r, X) := by
  refine ev_of (by decide) (Nat.le_of_ble_eq_true rfl) (fun Γ hk hR hT => ?_)
  change GG Δ m_Eng_register Γ NN 0 0 (I, X) 0 [some (.ref (Δ.ba + 0)), some (.int (x1)), some (.int (x2)), some (.int (x3))] []
  unfold f_Eng_register at h
  refine g_iload_n (pc := 0) (dd d_Eng_register 0 rfl) rfl ?_
  refine g_iflt (pc := 1) (tgt := 10) (dd d_Eng_register 1 rfl) (by decide) (fun q1 => ?_) (fun q1 => ?_)
  · replace h := ite_t h q1
    refine g_drop [0, 1, 2, 3] ?_
    exact gb_Eng_register_10 hX hk hT  h
  · replace h := ite_f h q1
    refine g_iload_n (pc := 4) (dd d_Eng_register 2 rfl) rfl ?_
    refine g_bipush (pc := 5) (v := 8) (dd d_Eng_register 3 rfl) (by decide) ?_
    refine g_icmple (pc := 7) (tgt := 20) (dd d_Eng_register 4 rfl) (by decide) (fun q2 => ?_) (fun q2 => ?_)
    · replace h := ite_t h q2
      refine g_aload_n (pc := 20) (dd d_Eng_register 10 rfl) rfl ?_
      refine g_getr (pc := 21) (dd d_Eng_register 11 rfl) f_Eng_66 oc_Eng rfl hX.r_hd ?_
      refine g_iload_n (pc := 24) (dd d_Eng_register 12 rfl) rfl ?_
      refine g_iload_n (pc := 25) (dd d_Eng_register 13 rfl) rfl ?_
      refine g_iload_n (pc := 26) (dd d_Eng_register 14 rfl) rfl ?_
      obtain ⟨v3, e4, h⟩ := bnd_e h
      refine g_callV (pc := 27) (dd d_Eng_register 15 rfl) v_Eng_155 (oc_Mch hX.i_hd) rfl (ef_Mch_setRegister hX hX.i_hd e4) rfl (by omega) (Nat.le_of_ble_eq_true rfl) ⟨Nat.zero_le _, Nat.zero_le _⟩ rfl ?_
      cases h
      exact g_vret (pc := 30) rfl (dd d_Eng_register 16 rfl) hT
    · replace h := ite_f h q2
      refine g_drop [0, 1, 2, 3] ?_
      exact gb_Eng_register_10 hX hk hT  h
def b_Mch_addInput_40 (x0 : Nat)   (I : IM) : Option (IM) := some I
set_option maxRecDepth 20000 in
set_option maxHeartbeats 4000000 in
theorem gb_Mch_addInput_40 {Δ : Dx} {X : Lx} {rl hd ot pt it : Nat} (hX : EX Δ X rl hd ot pt it) {x0 : Nat} (h_x0 : isMch x0)  {Γ : Cx} (hk : Γ.k = 0) {r : IM} (hT : Tg Δ Γ none NN (r, X) 0 0)   {I : IM} (h : b_Mch_addInput_40 x0   I = some r) : GG Δ m_Mch_addInput Γ NN 0 0 (I, X) 40 [none, none, none, none] [] := by
  unfold b_Mch_addInput_40 at h
  cases h
  exact g_vret (pc := 40) rfl (dd d_Mch_addInput 27 rfl) hT
def f_Mch_addInput (x0 : Nat) (x1 : Int32) (x2 : Int32) (I : IM) : Option (IM) := if (I (x0 + 13) (5 : Int32).toNatClampNeg : Int32) < 0 then (b_Mch_addInput_40 x0  I) else (if (16 : Int32) ≤ (I (x0 + 13) (5 : Int32).toNatClampNeg : Int32) then (b_Mch_addInput_40 x0  I) else (chk (inb (I (x0 + 13) (5 : Int32).toNatClampNeg) 16) <| lt (up I (x0 + 8) (I (x0 + 13) (5 : Int32).toNatClampNeg : Int32).toNatClampNeg (x1)) fun I4 => lt (up I4 (x0 + 9) (I (x0 + 13) (5 : Int32).toNatClampNeg : Int32).toNatClampNeg (x2)) fun I5 => lt (up I5 (x0 + 13) (5 : Int32).toNatClampNeg ((I (x0 + 13) (5 : Int32).toNatClampNeg) + 1)) fun I6 => b_Mch_addInput_40 x0  I6))
set_option maxRecDepth 20000 in
set_option maxHeartbeats 4000000 in
theorem ef_Mch_addInput {Δ : Dx} {X : Lx} {rl hd ot pt it : Nat} (hX : EX Δ X rl hd ot pt it) {x0 : Nat} {x1 : Int32} {x2 : Int32} (h_x0 : isMch x0) {I : IM}  {r : IM} (h : f_Mch_addInput x0 x1 x2 I = some r) : Ev Δ (0) m_Mch_addInput [.ref (Δ.ba + x0), .int x1, .int x2] (I, X) none (r, X) := by
  refine ev_of (by decide) (Nat.le_of_ble_eq_true rfl) (fun Γ hk hR hT => ?_)
  change GG Δ m_Mch_addInput Γ NN 0 0 (I, X) 0 [some (.ref (Δ.ba + x0)), some (.int (x1)), some (.int (x2)), none] []
  unfold f_Mch_addInput at h
  refine g_aload_n (pc := 0) (dd d_Mch_addInput 0 rfl) rfl ?_
  refine g_getr (pc := 1) (dd d_Mch_addInput 1 rfl) f_Mch_48 (oc_Mch h_x0) rfl (rx_Mch_15 hX h_x0) ?_
  refine g_iconst (pc := 4) (v := 5) (dd d_Mch_addInput 2 rfl) (by decide) ?_
  refine g_iald (pc := 5) (dd d_Mch_addInput 3 rfl) (ax_Mch_15 h_x0) (by rw [vp_in_iff]; decide) ?_
  refine g_istore_n (pc := 6) (dd d_Mch_addInput 4 rfl) (by decide) ?_
  refine g_iload_n (pc := 7) (dd d_Mch_addInput 5 rfl) rfl ?_
  refine g_iflt (pc := 8) (tgt := 40) (dd d_Mch_addInput 6 rfl) (by decide) (fun q1 => ?_) (fun q1 => ?_)
  · replace h := ite_t h q1
    refine g_drop [0, 1, 2, 3] ?_
    exact gb_Mch_addInput_40 hX h_x0 hk hT  h
  · replace h := ite_f h q1
    refine g_iload_n (pc := 11) (dd d_Mch_addInput 7 rfl) rfl ?_
    refine g_bipush (pc := 12) (v := 16) (dd d_Mch_addInput 8 rfl) (by decide) ?_
    refine g_icmpge (pc := 14) (tgt := 40) (dd d_Mch_addInput 9 rfl) (by decide) (fun q2 => ?_) (fun q2 => ?_)
    · replace h := ite_t h q2
      refine g_drop [0, 1, 2, 3] ?_
      exact gb_Mch_addInput_40 hX h_x0 hk hT  h
    · replace h := ite_f h q2
      refine g_aload_n (pc := 17) (dd d_Mch_addInput 10 rfl) rfl ?_
      refine g_getr (pc := 18) (dd d_Mch_addInput 11 rfl) f_Mch_33 (oc_Mch h_x0) rfl (rx_Mch_10 hX h_x0) ?_
      refine g_iload_n (pc := 21) (dd d_Mch_addInput 12 rfl) rfl ?_
      refine g_iload_n (pc := 22) (dd d_Mch_addInput 13 rfl) rfl ?_
      obtain ⟨c3, h⟩ := chk_e h
      refine g_iastN (pc := 23) (dd d_Mch_addInput 14 rfl) (ax_Mch_10 h_x0) c3 (fun I4 hI4 => ?_)
      replace h := lt_e h hI4
      refine g_aload_n (pc := 24) (dd d_Mch_addInput 15 rfl) rfl ?_
      refine g_getr (pc := 25) (dd d_Mch_addInput 16 rfl) f_Mch_36 (oc_Mch h_x0) rfl (rx_Mch_11 hX h_x0) ?_
      refine g_iload_n (pc := 28) (dd d_Mch_addInput 17 rfl) rfl ?_
      refine g_iload_n (pc := 29) (dd d_Mch_addInput 18 rfl) rfl ?_
      refine g_iastN (pc := 30) (dd d_Mch_addInput 19 rfl) (ax_Mch_11 h_x0) c3 (fun I5 hI5 => ?_)
      replace h := lt_e h hI5
      refine g_aload_n (pc := 31) (dd d_Mch_addInput 20 rfl) rfl ?_
      refine g_getr (pc := 32) (dd d_Mch_addInput 21 rfl) f_Mch_48 (oc_Mch h_x0) rfl (rx_Mch_15 hX h_x0) ?_
      refine g_iconst (pc := 35) (v := 5) (dd d_Mch_addInput 22 rfl) (by decide) ?_
      refine g_iload_n (pc := 36) (dd d_Mch_addInput 23 rfl) rfl ?_
      refine g_iconst (pc := 37) (v := 1) (dd d_Mch_addInput 24 rfl) (by decide) ?_
      refine g_iadd (pc := 38) (dd d_Mch_addInput 25 rfl) ?_
      refine g_iastN (pc := 39) (dd d_Mch_addInput 26 rfl) (ax_Mch_15 h_x0) (by rw [vp_in_iff]; decide) (fun I6 hI6 => ?_)
      replace h := lt_e h hI6
      refine g_drop [0, 1, 2, 3] ?_
      exact gb_Mch_addInput_40 hX h_x0 hk hT  h
def f_Eng_input (hd : Nat) (x1 : Int32) (x2 : Int32) (I : IM) : Option (Int32 × IM) := if (I (hd + 13) (5 : Int32).toNatClampNeg : Int32) < (16 : Int32) then (Option.bind (f_Mch_addInput  hd x1 x2 I) fun v2 => some (v2 (hd + 13) (5 : Int32).toNatClampNeg, v2)) else (none)
set_option maxRecDepth 20000 in
set_option maxHeartbeats 4000000 in
theorem ef_Eng_input {Δ : Dx} {X : Lx} {rl hd ot pt it : Nat} (hX : EX Δ X rl hd ot pt it) {x1 : Int32} {x2 : Int32}  {I : IM}  {r : Int32 × IM} (h : f_Eng_input hd x1 x2 I = some r) : Ev Δ (1) m_Eng_input [.ref (Δ.ba + 0), .int x1, .int x2] (I, X) (some (.int r.1)) (r.2, X) := by
  refine ev_of (by decide) (Nat.le_of_ble_eq_true rfl) (fun Γ hk hR hT => ?_)
  change GG Δ m_Eng_input Γ NN 0 0 (I, X) 0 [some (.ref (Δ.ba + 0)), some (.int (x1)), some (.int (x2))] []
  unfold f_Eng_input at h
  refine g_aload_n (pc := 0) (dd d_Eng_input 0 rfl) rfl ?_
  refine g_getr (pc := 1) (dd d_Eng_input 1 rfl) f_Eng_66 oc_Eng rfl hX.r_hd ?_
  refine g_getr (pc := 4) (dd d_Eng_input 2 rfl) f_Eng_158 (oc_Mch hX.i_hd) rfl (rx_Mch_15 hX hX.i_hd) ?_
  refine g_iconst (pc := 7) (v := 5) (dd d_Eng_input 3 rfl) (by decide) ?_
  refine g_iald (pc := 8) (dd d_Eng_input 4 rfl) (ax_Mch_15 hX.i_hd) (by rw [vp_in_iff]; decide) ?_
  refine g_bipush (pc := 9) (v := 16) (dd d_Eng_input 5 rfl) (by decide) ?_
  refine g_icmplt (pc := 11) (tgt := 24) (dd d_Eng_input 6 rfl) (by decide) (fun q1 => ?_) (fun q1 => ?_)
  · replace h := ite_t h q1
    refine g_aload_n (pc := 24) (dd d_Eng_input 12 rfl) rfl ?_
    refine g_getr (pc := 25) (dd d_Eng_input 13 rfl) f_Eng_66 oc_Eng rfl hX.r_hd ?_
    refine g_iload_n (pc := 28) (dd d_Eng_input 14 rfl) rfl ?_
    refine g_iload_n (pc := 29) (dd d_Eng_input 15 rfl) rfl ?_
    obtain ⟨v2, e3, h⟩ := bnd_e h
    refine g_callV (pc := 30) (dd d_Eng_input 16 rfl) v_Eng_163 (oc_Mch hX.i_hd) rfl (ef_Mch_addInput hX hX.i_hd e3) rfl (by omega) (Nat.le_of_ble_eq_true rfl) ⟨Nat.zero_le _, Nat.zero_le _⟩ rfl ?_
    refine g_aload_n (pc := 33) (dd d_Eng_input 17 rfl) rfl ?_
    refine g_getr (pc := 34) (dd d_Eng_input 18 rfl) f_Eng_66 oc_Eng rfl hX.r_hd ?_
    refine g_getr (pc := 37) (dd d_Eng_input 19 rfl) f_Eng_158 (oc_Mch hX.i_hd) rfl (rx_Mch_15 hX hX.i_hd) ?_
    refine g_iconst (pc := 40) (v := 5) (dd d_Eng_input 20 rfl) (by decide) ?_
    refine g_iald (pc := 41) (dd d_Eng_input 21 rfl) (ax_Mch_15 hX.i_hd) (by rw [vp_in_iff]; decide) ?_
    cases h
    exact g_iret (pc := 42) rfl (dd d_Eng_input 22 rfl) hT
  · replace h := ite_f h q1
    cases h
def f_Stp_decode (x1 : Int32) (x2 : Nat) (I : IM) : Option (IM) := lt (up I 35 4 (x1 &&& 31)) fun I1 => lt (up I1 35 5 (((x1 : Int32) >>> ((5 : Int32) &&& 31)) &&& 7)) fun I2 => lt (up I2 35 6 (((x1 : Int32) >>> ((8 : Int32) &&& 31)) &&& 7)) fun I3 => lt (up I3 35 7 (((x1 : Int32) >>> ((11 : Int32) &&& 31)) &&& 7)) fun I4 => lt (up I4 35 8 ((x1 : Int32) >>> ((16 : Int32) &&& 31))) fun I5 => chk (inb (I5 35 6) 9) <| lt (up I5 35 9 ((I5 (x2 + 6) (I5 35 6 : Int32).toNatClampNeg) + (I5 35 8))) fun I7 => some I7
set_option maxRecDepth 20000 in
set_option maxHeartbeats 4000000 in
theorem ef_Stp_decode {Δ : Dx} {X : Lx} {rl hd ot pt it : Nat} (hX : EX Δ X rl hd ot pt it) {x1 : Int32} {x2 : Nat} (h_x2 : isMch x2) {I : IM}  {r : IM} (h : f_Stp_decode x1 x2 I = some r) : Ev Δ (0) m_Stp_decode [.ref (Δ.ba + 35), .int x1, .ref (Δ.ba + x2)] (I, X) none (r, X) := by
  refine ev_of (by decide) (Nat.le_of_ble_eq_true rfl) (fun Γ hk hR hT => ?_)
  change GG Δ m_Stp_decode Γ NN 0 0 (I, X) 0 [some (.ref (Δ.ba + 35)), some (.int (x1)), some (.ref (Δ.ba + x2))] []
  unfold f_Stp_decode at h
  refine g_aload_n (pc := 0) (dd d_Stp_decode 0 rfl) rfl ?_
  refine g_iload_n (pc := 1) (dd d_Stp_decode 1 rfl) rfl ?_
  refine g_bipush (pc := 2) (v := 31) (dd d_Stp_decode 2 rfl) (by decide) ?_
  refine g_iand (pc := 4) (dd d_Stp_decode 3 rfl) ?_
  refine g_putiN (pc := 5) (dd d_Stp_decode 4 rfl) f_Stp_57 fm_Stp_4 oc_Stp rfl (fun I1 hI1 => ?_)
  replace h := lt_e h hI1
  refine g_aload_n (pc := 8) (dd d_Stp_decode 5 rfl) rfl ?_
  refine g_iload_n (pc := 9) (dd d_Stp_decode 6 rfl) rfl ?_
  refine g_iconst (pc := 10) (v := 5) (dd d_Stp_decode 7 rfl) (by decide) ?_
  refine g_ishr (pc := 11) (dd d_Stp_decode 8 rfl) ?_
  refine g_bipush (pc := 12) (v := 7) (dd d_Stp_decode 9 rfl) (by decide) ?_
  refine g_iand (pc := 14) (dd d_Stp_decode 10 rfl) ?_
  refine g_putiN (pc := 15) (dd d_Stp_decode 11 rfl) f_Stp_122 fm_Stp_5 oc_Stp rfl (fun I2 hI2 => ?_)
  replace h := lt_e h hI2
  refine g_aload_n (pc := 18) (dd d_Stp_decode 12 rfl) rfl ?_
  refine g_iload_n (pc := 19) (dd d_Stp_decode 13 rfl) rfl ?_
  refine g_bipush (pc := 20) (v := 8) (dd d_Stp_decode 14 rfl) (by decide) ?_
  refine g_ishr (pc := 22) (dd d_Stp_decode 15 rfl) ?_
  refine g_bipush (pc := 23) (v := 7) (dd d_Stp_decode 16 rfl) (by decide) ?_
  refine g_iand (pc := 25) (dd d_Stp_decode 17 rfl) ?_
  refine g_putiN (pc := 26) (dd d_Stp_decode 18 rfl) f_Stp_125 fm_Stp_6 oc_Stp rfl (fun I3 hI3 => ?_)
  replace h := lt_e h hI3
  refine g_aload_n (pc := 29) (dd d_Stp_decode 19 rfl) rfl ?_
  refine g_iload_n (pc := 30) (dd d_Stp_decode 20 rfl) rfl ?_
  refine g_bipush (pc := 31) (v := 11) (dd d_Stp_decode 21 rfl) (by decide) ?_
  refine g_ishr (pc := 33) (dd d_Stp_decode 22 rfl) ?_
  refine g_bipush (pc := 34) (v := 7) (dd d_Stp_decode 23 rfl) (by decide) ?_
  refine g_iand (pc := 36) (dd d_Stp_decode 24 rfl) ?_
  refine g_putiN (pc := 37) (dd d_Stp_decode 25 rfl) f_Stp_128 fm_Stp_7 oc_Stp rfl (fun I4 hI4 => ?_)
  replace h := lt_e h hI4
  refine g_aload_n (pc := 40) (dd d_Stp_decode 26 rfl) rfl ?_
  refine g_iload_n (pc := 41) (dd d_Stp_decode 27 rfl) rfl ?_
  refine g_bipush (pc := 42) (v := 16) (dd d_Stp_decode 28 rfl) (by decide) ?_
  refine g_ishr (pc := 44) (dd d_Stp_decode 29 rfl) ?_
  refine g_putiN (pc := 45) (dd d_Stp_decode 30 rfl) f_Stp_131 fm_Stp_8 oc_Stp rfl (fun I5 hI5 => ?_)
  replace h := lt_e h hI5
  refine g_aload_n (pc := 48) (dd d_Stp_decode 31 rfl) rfl ?_
  refine g_aload_n (pc := 49) (dd d_Stp_decode 32 rfl) rfl ?_
  refine g_getr (pc := 50) (dd d_Stp_decode 33 rfl) f_Stp_73 (oc_Mch h_x2) rfl (rx_Mch_8 hX h_x2) ?_
  refine g_aload_n (pc := 53) (dd d_Stp_decode 34 rfl) rfl ?_
  refine g_geti (pc := 54) (dd d_Stp_decode 35 rfl) f_Stp_125 oc_Stp rfl ?_
  obtain ⟨c6, h⟩ := chk_e h
  refine g_iald (pc := 57) (dd d_Stp_decode 36 rfl) (ax_Mch_8 h_x2) c6 ?_
  refine g_aload_n (pc := 58) (dd d_Stp_decode 37 rfl) rfl ?_
  refine g_geti (pc := 59) (dd d_Stp_decode 38 rfl) f_Stp_131 oc_Stp rfl ?_
  refine g_iadd (pc := 62) (dd d_Stp_decode 39 rfl) ?_
  refine g_putiN (pc := 63) (dd d_Stp_decode 40 rfl) f_Stp_134 fm_Stp_9 oc_Stp rfl (fun I7 hI7 => ?_)
  replace h := lt_e h hI7
  cases h
  exact g_vret (pc := 66) rfl (dd d_Stp_decode 41 rfl) hT
def b_Pol_hasRule_28 (x0 : Nat) (I : IM)  (y0 : Int32) : Option (Int32) := chk (y0 = 0 ∨ y0 = 1) <| some (y0)
set_option maxRecDepth 20000 in
set_option maxHeartbeats 4000000 in
theorem gb_Pol_hasRule_28 {Δ : Dx} {X : Lx} {rl hd ot pt it : Nat} (hX : EX Δ X rl hd ot pt it) {x0 : Nat} (h_x0 : isPol x0) {I : IM} {Γ : Cx} (hk : Γ.k = 0) {r : Int32} (hT : Tg Δ Γ (some (.int r)) NN (I, X) 0 0)  {y0 : Int32} (h : b_Pol_hasRule_28 x0 I  y0 = some r) : GG Δ m_Pol_hasRule Γ NN 0 0 (I, X) 28 [none, none] [.int (y0)] := by
  unfold b_Pol_hasRule_28 at h
  obtain ⟨c5, h⟩ := chk_e h
  cases h
  exact g_zret (pc := 28) rfl c5 (dd d_Pol_hasRule 16 rfl) hT
def b_Pol_hasRule_27 (x0 : Nat) (I : IM)   : Option (Int32) := b_Pol_hasRule_28 x0 I  0
set_option maxRecDepth 20000 in
set_option maxHeartbeats 4000000 in
theorem gb_Pol_hasRule_27 {Δ : Dx} {X : Lx} {rl hd ot pt it : Nat} (hX : EX Δ X rl hd ot pt it) {x0 : Nat} (h_x0 : isPol x0) {I : IM} {Γ : Cx} (hk : Γ.k = 0) {r : Int32} (hT : Tg Δ Γ (some (.int r)) NN (I, X) 0 0)   (h : b_Pol_hasRule_27 x0 I   = some r) : GG Δ m_Pol_hasRule Γ NN 0 0 (I, X) 27 [none, none] [] := by
  unfold b_Pol_hasRule_27 at h
  refine g_iconst (pc := 27) (v := 0) (dd d_Pol_hasRule 15 rfl) (by decide) ?_
  exact gb_Pol_hasRule_28 hX h_x0 hk hT  h
def f_Pol_hasRule (x0 : Nat) (x1 : Int32) (I : IM) : Option (Int32) := if x1 < 0 then (b_Pol_hasRule_27 x0 I  ) else (if (22 : Int32) ≤ x1 then (b_Pol_hasRule_27 x0 I  ) else (chk (inb x1 22) <| some (if (I (x0 + 5) x1.toNatClampNeg : Int32) = ((-1) : Int32) then 0 else 1)))
set_option maxRecDepth 20000 in
set_option maxHeartbeats 4000000 in
theorem ef_Pol_hasRule {Δ : Dx} {X : Lx} {rl hd ot pt it : Nat} (hX : EX Δ X rl hd ot pt it) {x0 : Nat} {x1 : Int32} (h_x0 : isPol x0) {I : IM}  {r : Int32} (h : f_Pol_hasRule x0 x1 I = some r) : Ev Δ (0) m_Pol_hasRule [.ref (Δ.ba + x0), .int x1] (I, X) (some (.int r)) (I, X) := by
  refine ev_of (by decide) (Nat.le_of_ble_eq_true rfl) (fun Γ hk hR hT => ?_)
  change GG Δ m_Pol_hasRule Γ NN 0 0 (I, X) 0 [some (.ref (Δ.ba + x0)), some (.int (x1))] []
  unfold f_Pol_hasRule at h
  refine g_iload_n (pc := 0) (dd d_Pol_hasRule 0 rfl) rfl ?_
  refine g_iflt (pc := 1) (tgt := 27) (dd d_Pol_hasRule 1 rfl) (by decide) (fun q1 => ?_) (fun q1 => ?_)
  · replace h := ite_t h q1
    refine g_drop [0, 1] ?_
    exact gb_Pol_hasRule_27 hX h_x0 hk hT  h
  · replace h := ite_f h q1
    refine g_iload_n (pc := 4) (dd d_Pol_hasRule 2 rfl) rfl ?_
    refine g_aload_n (pc := 5) (dd d_Pol_hasRule 3 rfl) rfl ?_
    refine g_getr (pc := 6) (dd d_Pol_hasRule 4 rfl) f_Pol_24 (oc_Pol h_x0) rfl (rx_Pol_5 hX h_x0) ?_
    refine g_alen (pc := 9) (t := 0) (v := 22) (dd d_Pol_hasRule 5 rfl) (ax_Pol_5 h_x0) rfl (by decide) ?_
    refine g_icmpge (pc := 10) (tgt := 27) (dd d_Pol_hasRule 6 rfl) (by decide) (fun q2 => ?_) (fun q2 => ?_)
    · replace h := ite_t h q2
      refine g_drop [0, 1] ?_
      exact gb_Pol_hasRule_27 hX h_x0 hk hT  h
    · replace h := ite_f h q2
      refine g_aload_n (pc := 13) (dd d_Pol_hasRule 7 rfl) rfl ?_
      refine g_getr (pc := 14) (dd d_Pol_hasRule 8 rfl) f_Pol_24 (oc_Pol h_x0) rfl (rx_Pol_5 hX h_x0) ?_
      refine g_iload_n (pc := 17) (dd d_Pol_hasRule 9 rfl) rfl ?_
      obtain ⟨c3, h⟩ := chk_e h
      refine g_iald (pc := 18) (dd d_Pol_hasRule 10 rfl) (ax_Pol_5 h_x0) c3 ?_
      refine g_iconst (pc := 19) (v := (-1)) (dd d_Pol_hasRule 11 rfl) (by decide) ?_
      suffices K20 : ∀ z : Int32, z = (if (I (x0 + 5) x1.toNatClampNeg : Int32) = ((-1) : Int32) then 0 else 1 : Int32) → GG Δ m_Pol_hasRule Γ NN 0 0 (I, X) 28 [some (.ref (Δ.ba + x0)), some (.int (x1))] [.int (z)] by
        refine g_icmpeq (pc := 20) (tgt := 27) (dd d_Pol_hasRule 12 rfl) (by decide) (fun q4 => ?_) (fun q4 => ?_)
        · skip
          refine g_iconst (pc := 27) (v := 0) (dd d_Pol_hasRule 15 rfl) (by decide) ?_
          exact K20 _ (by rw [if_pos q4])
        · skip
          refine g_iconst (pc := 23) (v := 1) (dd d_Pol_hasRule 13 rfl) (by decide) ?_
          refine g_goto (pc := 24) (tgt := 28) (dd d_Pol_hasRule 14 rfl) (by decide) ?_
          exact K20 _ (by rw [if_neg q4])
      intro z hz
      subst hz
      cases h
      exact g_zret (pc := 28) rfl (by (repeat' split) <;> first | exact Or.inl rfl | exact Or.inr rfl) (dd d_Pol_hasRule 16 rfl) hT
def f_Stp_reachesWord  (I : IM) : Option (Int32) := some (if (I 35 4 : Int32) = (11 : Int32) then 1 else (if (I 35 4 : Int32) = (12 : Int32) then 1 else 0))
set_option maxRecDepth 20000 in
set_option maxHeartbeats 4000000 in
theorem ef_Stp_reachesWord {Δ : Dx} {X : Lx} {rl hd ot pt it : Nat} (hX : EX Δ X rl hd ot pt it)   {I : IM}  {r : Int32} (h : f_Stp_reachesWord  I = some r) : Ev Δ (0) m_Stp_reachesWord [.ref (Δ.ba + 35)] (I, X) (some (.int r)) (I, X) := by
  refine ev_of (by decide) (Nat.le_of_ble_eq_true rfl) (fun Γ hk hR hT => ?_)
  change GG Δ m_Stp_reachesWord Γ NN 0 0 (I, X) 0 [some (.ref (Δ.ba + 35))] []
  unfold f_Stp_reachesWord at h
  refine g_aload_n (pc := 0) (dd d_Stp_reachesWord 0 rfl) rfl ?_
  refine g_geti (pc := 1) (dd d_Stp_reachesWord 1 rfl) f_Stp_57 oc_Stp rfl ?_
  refine g_bipush (pc := 4) (v := 11) (dd d_Stp_reachesWord 2 rfl) (by decide) ?_
  suffices K6 : ∀ z : Int32, z = (if (I 35 4 : Int32) = (11 : Int32) then 1 else (if (I 35 4 : Int32) = (12 : Int32) then 1 else 0) : Int32) → GG Δ m_Stp_reachesWord Γ NN 0 0 (I, X) 23 [some (.ref (Δ.ba + 35))] [.int (z)] by
    refine g_icmpeq (pc := 6) (tgt := 18) (dd d_Stp_reachesWord 3 rfl) (by decide) (fun q1 => ?_) (fun q1 => ?_)
    · skip
      refine g_iconst (pc := 18) (v := 1) (dd d_Stp_reachesWord 8 rfl) (by decide) ?_
      refine g_goto (pc := 19) (tgt := 23) (dd d_Stp_reachesWord 9 rfl) (by decide) ?_
      exact K6 _ (by rw [if_pos q1])
    · skip
      refine g_aload_n (pc := 9) (dd d_Stp_reachesWord 4 rfl) rfl ?_
      refine g_geti (pc := 10) (dd d_Stp_reachesWord 5 rfl) f_Stp_57 oc_Stp rfl ?_
      refine g_bipush (pc := 13) (v := 12) (dd d_Stp_reachesWord 6 rfl) (by decide) ?_
      refine g_icmpne (pc := 15) (tgt := 22) (dd d_Stp_reachesWord 7 rfl) (by decide) (fun q2 => ?_) (fun q2 => ?_)
      · skip
        refine g_iconst (pc := 22) (v := 0) (dd d_Stp_reachesWord 10 rfl) (by decide) ?_
        exact K6 _ (by rw [if_neg q1, if_neg q2])
      · skip
        refine g_iconst (pc := 18) (v := 1) (dd d_Stp_reachesWord 8 rfl) (by decide) ?_
        refine g_goto (pc := 19) (tgt := 23) (dd d_Stp_reachesWord 9 rfl) (by decide) ?_
        exact K6 _ (by rw [if_neg q1, if_pos q2])
  intro z hz
  subst hz
  cases h
  exact g_zret (pc := 23) rfl (by (repeat' split) <;> first | exact Or.inl rfl | exact Or.inr rfl) (dd d_Stp_reachesWord 11 rfl) hT
def b_Stp_ofWord_40 (x1 : Nat) (x2 : Nat) (I : IM)  (y0 : Int32) : Option (Int32) := some (y0)
set_option maxRecDepth 20000 in
set_option maxHeartbeats 4000000 in
theorem gb_Stp_ofWord_40 {Δ : Dx} {X : Lx} {rl hd ot pt it : Nat} (hX : EX Δ X rl hd ot pt it) {x1 : Nat} {x2 : Nat} (h_x1 : isMch x1) (ha_x2 : isA x2) {I : IM} {Γ : Cx} (hk : Γ.k = 1) {r : Int32} (hT : Tg Δ Γ (some (.int r)) NN (I, X) 0 0)  {y0 : Int32} (h : b_Stp_ofWord_40 x1 x2 I  y0 = some r) : GG Δ m_Stp_ofWord Γ NN 0 0 (I, X) 40 [none, none, none] [.int (y0)] := by
  unfold b_Stp_ofWord_40 at h
  cases h
  exact g_iret (pc := 40) rfl (dd d_Stp_ofWord 21 rfl) hT
def b_Stp_ofWord_38 (x1 : Nat) (x2 : Nat) (I : IM)   : Option (Int32) := b_Stp_ofWord_40 x1 x2 I  (-2)
set_option maxRecDepth 20000 in
set_option maxHeartbeats 4000000 in
theorem gb_Stp_ofWord_38 {Δ : Dx} {X : Lx} {rl hd ot pt it : Nat} (hX : EX Δ X rl hd ot pt it) {x1 : Nat} {x2 : Nat} (h_x1 : isMch x1) (ha_x2 : isA x2) {I : IM} {Γ : Cx} (hk : Γ.k = 1) {r : Int32} (hT : Tg Δ Γ (some (.int r)) NN (I, X) 0 0)   (h : b_Stp_ofWord_38 x1 x2 I   = some r) : GG Δ m_Stp_ofWord Γ NN 0 0 (I, X) 38 [none, none, none] [] := by
  unfold b_Stp_ofWord_38 at h
  refine g_bipush (pc := 38) (v := (-2)) (dd d_Stp_ofWord 20 rfl) (by decide) ?_
  exact gb_Stp_ofWord_40 hX h_x1 ha_x2 hk hT  h
def f_Stp_ofWord (x1 : Nat) (x2 : Nat) (I : IM) : Option (Int32) := Option.bind (f_Stp_reachesWord   I) fun v1 => if v1 = 0 then (some (0)) else (Option.bind (f_Mch_hasWord  x1 (I 35 9) I) fun v4 => if v4 = 0 then (b_Stp_ofWord_38 x1 x2 I  ) else (if (Int32.ofNat (lenA x2) : Int32) ≤ (I 35 9 : Int32) then (b_Stp_ofWord_38 x1 x2 I  ) else (chk (inb (I 35 9) (lenA x2)) <| b_Stp_ofWord_40 x1 x2 I  (I x2 (I 35 9 : Int32).toNatClampNeg))))
set_option maxRecDepth 20000 in
set_option maxHeartbeats 4000000 in
theorem ef_Stp_ofWord {Δ : Dx} {X : Lx} {rl hd ot pt it : Nat} (hX : EX Δ X rl hd ot pt it) {x1 : Nat} {x2 : Nat} (h_x1 : isMch x1) (ha_x2 : isA x2) {I : IM}  {r : Int32} (h : f_Stp_ofWord x1 x2 I = some r) : Ev Δ (1) m_Stp_ofWord [.ref (Δ.ba + 35), .ref (Δ.ba + x1), .ref (Δ.ba + x2)] (I, X) (some (.int r)) (I, X) := by
  refine ev_of (by decide) (Nat.le_of_ble_eq_true rfl) (fun Γ hk hR hT => ?_)
  change GG Δ m_Stp_ofWord Γ NN 0 0 (I, X) 0 [some (.ref (Δ.ba + 35)), some (.ref (Δ.ba + x1)), some (.ref (Δ.ba + x2))] []
  unfold f_Stp_ofWord at h
  refine g_aload_n (pc := 0) (dd d_Stp_ofWord 0 rfl) rfl ?_
  obtain ⟨v1, e2, h⟩ := bnd_e h
  refine g_callV (pc := 1) (dd d_Stp_ofWord 1 rfl) v_Stp_178 oc_Stp rfl (ef_Stp_reachesWord hX e2) rfl (by omega) (Nat.le_of_ble_eq_true rfl) ⟨Nat.zero_le _, Nat.zero_le _⟩ rfl ?_
  refine g_ifne (pc := 4) (tgt := 9) (dd d_Stp_ofWord 2 rfl) (by decide) (fun q3 => ?_) (fun q3 => ?_)
  · replace h := ite_f h q3
    refine g_aload_n (pc := 9) (dd d_Stp_ofWord 5 rfl) rfl ?_
    refine g_aload_n (pc := 10) (dd d_Stp_ofWord 6 rfl) rfl ?_
    refine g_geti (pc := 11) (dd d_Stp_ofWord 7 rfl) f_Stp_134 oc_Stp rfl ?_
    obtain ⟨v4, e5, h⟩ := bnd_e h
    refine g_callV (pc := 14) (dd d_Stp_ofWord 8 rfl) v_Stp_182 (oc_Mch h_x1) rfl (ef_Mch_hasWord hX h_x1 e5) rfl (by omega) (Nat.le_of_ble_eq_true rfl) ⟨Nat.zero_le _, Nat.zero_le _⟩ rfl ?_
    refine g_ifeq (pc := 17) (tgt := 38) (dd d_Stp_ofWord 9 rfl) (by decide) (fun q6 => ?_) (fun q6 => ?_)
    · replace h := ite_t h q6
      refine g_drop [0, 1, 2] ?_
      exact gb_Stp_ofWord_38 hX h_x1 ha_x2 hk hT  h
    · replace h := ite_f h q6
      refine g_aload_n (pc := 20) (dd d_Stp_ofWord 10 rfl) rfl ?_
      refine g_geti (pc := 21) (dd d_Stp_ofWord 11 rfl) f_Stp_134 oc_Stp rfl ?_
      refine g_aload_n (pc := 24) (dd d_Stp_ofWord 12 rfl) rfl ?_
      refine g_alen (pc := 25) (t := 0) (dd d_Stp_ofWord 13 rfl) ha_x2 rfl rfl ?_
      refine g_icmpge (pc := 26) (tgt := 38) (dd d_Stp_ofWord 14 rfl) (by decide) (fun q7 => ?_) (fun q7 => ?_)
      · replace h := ite_t h q7
        refine g_drop [0, 1, 2] ?_
        exact gb_Stp_ofWord_38 hX h_x1 ha_x2 hk hT  h
      · replace h := ite_f h q7
        refine g_aload_n (pc := 29) (dd d_Stp_ofWord 15 rfl) rfl ?_
        refine g_aload_n (pc := 30) (dd d_Stp_ofWord 16 rfl) rfl ?_
        refine g_geti (pc := 31) (dd d_Stp_ofWord 17 rfl) f_Stp_134 oc_Stp rfl ?_
        obtain ⟨c8, h⟩ := chk_e h
        refine g_iald (pc := 34) (dd d_Stp_ofWord 18 rfl) ha_x2 c8 ?_
        refine g_goto (pc := 35) (tgt := 40) (dd d_Stp_ofWord 19 rfl) (by decide) ?_
        refine g_drop [0, 1, 2] ?_
        exact gb_Stp_ofWord_40 hX h_x1 ha_x2 hk hT  h
  · replace h := ite_t h q3
    refine g_iconst (pc := 7) (v := 0) (dd d_Stp_ofWord 3 rfl) (by decide) ?_
    cases h
    exact g_iret (pc := 8) rfl (dd d_Stp_ofWord 4 rfl) hT
def b_Stp_nameValue_192 (x1 : Nat) (I : IM)  (y0 : Int32) : Option (Int32) := some (y0)
set_option maxRecDepth 20000 in
set_option maxHeartbeats 4000000 in
theorem gb_Stp_nameValue_192 {Δ : Dx} {X : Lx} {rl hd ot pt it : Nat} (hX : EX Δ X rl hd ot pt it) {x1 : Nat} (h_x1 : isMch x1) {I : IM} {Γ : Cx} (hk : Γ.k = 2) {r : Int32} (hT : Tg Δ Γ (some (.int r)) NN (I, X) 0 0)  {y0 : Int32} (h : b_Stp_nameValue_192 x1 I  y0 = some r) : GG Δ m_Stp_nameValue Γ NN 0 0 (I, X) 192 [none, none, none] [.int (y0)] := by
  unfold b_Stp_nameValue_192 at h
  cases h
  exact g_iret (pc := 192) rfl (dd d_Stp_nameValue_1 10 rfl) hT
def b_Stp_nameValue_191 (x1 : Nat) (I : IM)   : Option (Int32) := b_Stp_nameValue_192 x1 I  0
set_option maxRecDepth 20000 in
set_option maxHeartbeats 4000000 in
theorem gb_Stp_nameValue_191 {Δ : Dx} {X : Lx} {rl hd ot pt it : Nat} (hX : EX Δ X rl hd ot pt it) {x1 : Nat} (h_x1 : isMch x1) {I : IM} {Γ : Cx} (hk : Γ.k = 2) {r : Int32} (hT : Tg Δ Γ (some (.int r)) NN (I, X) 0 0)   (h : b_Stp_nameValue_191 x1 I   = some r) : GG Δ m_Stp_nameValue Γ NN 0 0 (I, X) 191 [none, none, none] [] := by
  unfold b_Stp_nameValue_191 at h
  refine g_iconst (pc := 191) (v := 0) (dd d_Stp_nameValue_1 9 rfl) (by decide) ?_
  exact gb_Stp_nameValue_192 hX h_x1 hk hT  h
def f_Stp_nameValue (x1 : Nat) (x2 : Int32) (I : IM) : Option (Int32) := if x2 = 0 then (some (I (x1 + 7) (8 : Int32).toNatClampNeg)) else (if x2 = 1 then (chk (inb (I 35 5) 9) <| some (I (x1 + 7) (I 35 5 : Int32).toNatClampNeg)) else (if x2 = 2 then (chk (inb (I 35 6) 9) <| some (I (x1 + 7) (I 35 6 : Int32).toNatClampNeg)) else (if x2 = 3 then (chk (inb (I 35 7) 9) <| some (I (x1 + 7) (I 35 7 : Int32).toNatClampNeg)) else (if x2 = 4 then (chk (inb (I 35 5) 9) <| some (I (x1 + 6) (I 35 5 : Int32).toNatClampNeg)) else (if x2 = 5 then (chk (inb (I 35 6) 9) <| some (I (x1 + 6) (I 35 6 : Int32).toNatClampNeg)) else (if x2 = 6 then (chk (inb (I 35 7) 9) <| some (I (x1 + 6) (I 35 7 : Int32).toNatClampNeg)) else (if x2 = 7 then (Option.bind (f_Stp_ofWord  x1 (x1 + 4) I) fun v8 => some (v8)) else (if x2 = 8 then (Option.bind (f_Stp_ofWord  x1 (x1 + 5) I) fun v10 => some (v10)) else (if x2 = 9 then (if (I 35 4 : Int32) = (18 : Int32) then (if (I (x1 + 13) (5 : Int32).toNatClampNeg : Int32) ≤ 0 then (b_Stp_nameValue_191 x1 I  ) else (b_Stp_nameValue_192 x1 I  (I (x1 + 9) (0 : Int32).toNatClampNeg))) else (b_Stp_nameValue_191 x1 I  )) else (if x2 = 10 then (some (I 35 8)) else (if x2 = 11 then (some (I 35 3)) else (if x2 = 12 then (some (I x1 1)) else (if x2 = 13 then (some (I x1 0)) else (if x2 = 14 then (some ((I (x1 + 13) (6 : Int32).toNatClampNeg) + 2)) else (some (0))))))))))))))))
set_option maxRecDepth 20000 in
set_option maxHeartbeats 4000000 in
theorem ef_Stp_nameValue {Δ : Dx} {X : Lx} {rl hd ot pt it : Nat} (hX : EX Δ X rl hd ot pt it) {x1 : Nat} {x2 : Int32} (h_x1 : isMch x1) {I : IM}  {r : Int32} (h : f_Stp_nameValue x1 x2 I = some r) : Ev Δ (2) m_Stp_nameValue [.ref (Δ.ba + 35), .ref (Δ.ba + x1), .int x2] (I, X) (some (.int r)) (I, X) := by
  refine ev_of (by decide) (Nat.le_of_ble_eq_true rfl) (fun Γ hk hR hT => ?_)
  change GG Δ m_Stp_nameValue Γ NN 0 0 (I, X) 0 [some (.ref (Δ.ba + 35)), some (.ref (Δ.ba + x1)), some (.int (x2))] []
  unfold f_Stp_nameValue at h
  refine g_iload_n (pc := 0) (dd d_Stp_nameValue 0 rfl) rfl ?_
  refine g_tableC (pc := 1) (dd d_Stp_nameValue 1 rfl) (fun i off ho w1 => ?_) (by decide) (fun w1 => ⟨223, by decide, ?_⟩)
  · rcases i with _ | _ | _ | _ | _ | _ | _ | _ | _ | _ | _ | _ | _ | _ | _ | i
    · obtain rfl : off = 75 := (Option.some.inj ho).symm
      refine ⟨76, by decide, ?_⟩
      replace w1 : x2 = 0 := Int32.toInt_inj.mp w1
      replace h := ite_t h w1
      refine g_aload_n (pc := 76) (dd d_Stp_nameValue 2 rfl) rfl ?_
      refine g_getr (pc := 77) (dd d_Stp_nameValue 3 rfl) f_Stp_159 (oc_Mch h_x1) rfl (rx_Mch_9 hX h_x1) ?_
      refine g_bipush (pc := 80) (v := 8) (dd d_Stp_nameValue 4 rfl) (by decide) ?_
      refine g_iald (pc := 82) (dd d_Stp_nameValue 5 rfl) (ax_Mch_9 h_x1) (by rw [vp_in_iff]; decide) ?_
      cases h
      exact g_iret (pc := 83) rfl (dd d_Stp_nameValue 6 rfl) hT
    · obtain rfl : off = 83 := (Option.some.inj ho).symm
      refine ⟨84, by decide, ?_⟩
      replace w1 : x2 = 1 := Int32.toInt_inj.mp w1
      replace h := ite_f h (by rw [w1]; decide)
      replace h := ite_t h w1
      refine g_aload_n (pc := 84) (dd d_Stp_nameValue 7 rfl) rfl ?_
      refine g_getr (pc := 85) (dd d_Stp_nameValue 8 rfl) f_Stp_159 (oc_Mch h_x1) rfl (rx_Mch_9 hX h_x1) ?_
      refine g_aload_n (pc := 88) (dd d_Stp_nameValue 9 rfl) rfl ?_
      refine g_geti (pc := 89) (dd d_Stp_nameValue 10 rfl) f_Stp_122 oc_Stp rfl ?_
      obtain ⟨c2, h⟩ := chk_e h
      refine g_iald (pc := 92) (dd d_Stp_nameValue 11 rfl) (ax_Mch_9 h_x1) c2 ?_
      cases h
      exact g_iret (pc := 93) rfl (dd d_Stp_nameValue 12 rfl) hT
    · obtain rfl : off = 93 := (Option.some.inj ho).symm
      refine ⟨94, by decide, ?_⟩
      replace w1 : x2 = 2 := Int32.toInt_inj.mp w1
      replace h := ite_f h (by rw [w1]; decide)
      replace h := ite_f h (by rw [w1]; decide)
      replace h := ite_t h w1
      refine g_aload_n (pc := 94) (dd d_Stp_nameValue 13 rfl) rfl ?_
      refine g_getr (pc := 95) (dd d_Stp_nameValue 14 rfl) f_Stp_159 (oc_Mch h_x1) rfl (rx_Mch_9 hX h_x1) ?_
      refine g_aload_n (pc := 98) (dd d_Stp_nameValue 15 rfl) rfl ?_
      refine g_geti (pc := 99) (dd d_Stp_nameValue 16 rfl) f_Stp_125 oc_Stp rfl ?_
      obtain ⟨c3, h⟩ := chk_e h
      refine g_iald (pc := 102) (dd d_Stp_nameValue 17 rfl) (ax_Mch_9 h_x1) c3 ?_
      cases h
      exact g_iret (pc := 103) rfl (dd d_Stp_nameValue 18 rfl) hT
    · obtain rfl : off = 103 := (Option.some.inj ho).symm
      refine ⟨104, by decide, ?_⟩
      replace w1 : x2 = 3 := Int32.toInt_inj.mp w1
      replace h := ite_f h (by rw [w1]; decide)
      replace h := ite_f h (by rw [w1]; decide)
      replace h := ite_f h (by rw [w1]; decide)
      replace h := ite_t h w1
      refine g_aload_n (pc := 104) (dd d_Stp_nameValue 19 rfl) rfl ?_
      refine g_getr (pc := 105) (dd d_Stp_nameValue 20 rfl) f_Stp_159 (oc_Mch h_x1) rfl (rx_Mch_9 hX h_x1) ?_
      refine g_aload_n (pc := 108) (dd d_Stp_nameValue 21 rfl) rfl ?_
      refine g_geti (pc := 109) (dd d_Stp_nameValue 22 rfl) f_Stp_128 oc_Stp rfl ?_
      obtain ⟨c4, h⟩ := chk_e h
      refine g_iald (pc := 112) (dd d_Stp_nameValue 23 rfl) (ax_Mch_9 h_x1) c4 ?_
      cases h
      exact g_iret (pc := 113) rfl (dd d_Stp_nameValue 24 rfl) hT
    · obtain rfl : off = 113 := (Option.some.inj ho).symm
      refine ⟨114, by decide, ?_⟩
      replace w1 : x2 = 4 := Int32.toInt_inj.mp w1
      replace h := ite_f h (by rw [w1]; decide)
      replace h := ite_f h (by rw [w1]; decide)
      replace h := ite_f h (by rw [w1]; decide)
      replace h := ite_f h (by rw [w1]; decide)
      replace h := ite_t h w1
      refine g_aload_n (pc := 114) (dd d_Stp_nameValue 25 rfl) rfl ?_
      refine g_getr (pc := 115) (dd d_Stp_nameValue 26 rfl) f_Stp_73 (oc_Mch h_x1) rfl (rx_Mch_8 hX h_x1) ?_
      refine g_aload_n (pc := 118) (dd d_Stp_nameValue 27 rfl) rfl ?_
      refine g_geti (pc := 119) (dd d_Stp_nameValue 28 rfl) f_Stp_122 oc_Stp rfl ?_
      obtain ⟨c5, h⟩ := chk_e h
      refine g_iald (pc := 122) (dd d_Stp_nameValue 29 rfl) (ax_Mch_8 h_x1) c5 ?_
      cases h
      exact g_iret (pc := 123) rfl (dd d_Stp_nameValue 30 rfl) hT
    · obtain rfl : off = 123 := (Option.some.inj ho).symm
      refine ⟨124, by decide, ?_⟩
      replace w1 : x2 = 5 := Int32.toInt_inj.mp w1
      replace h := ite_f h (by rw [w1]; decide)
      replace h := ite_f h (by rw [w1]; decide)
      replace h := ite_f h (by rw [w1]; decide)
      replace h := ite_f h (by rw [w1]; decide)
      replace h := ite_f h (by rw [w1]; decide)
      replace h := ite_t h w1
      refine g_aload_n (pc := 124) (dd d_Stp_nameValue 31 rfl) rfl ?_
      refine g_getr (pc := 125) (dd d_Stp_nameValue 32 rfl) f_Stp_73 (oc_Mch h_x1) rfl (rx_Mch_8 hX h_x1) ?_
      refine g_aload_n (pc := 128) (dd d_Stp_nameValue 33 rfl) rfl ?_
      refine g_geti (pc := 129) (dd d_Stp_nameValue 34 rfl) f_Stp_125 oc_Stp rfl ?_
      obtain ⟨c6, h⟩ := chk_e h
      refine g_iald (pc := 132) (dd d_Stp_nameValue 35 rfl) (ax_Mch_8 h_x1) c6 ?_
      cases h
      exact g_iret (pc := 133) rfl (dd d_Stp_nameValue 36 rfl) hT
    · obtain rfl : off = 133 := (Option.some.inj ho).symm
      refine ⟨134, by decide, ?_⟩
      replace w1 : x2 = 6 := Int32.toInt_inj.mp w1
      replace h := ite_f h (by rw [w1]; decide)
      replace h := ite_f h (by rw [w1]; decide)
      replace h := ite_f h (by rw [w1]; decide)
      replace h := ite_f h (by rw [w1]; decide)
      replace h := ite_f h (by rw [w1]; decide)
      replace h := ite_f h (by rw [w1]; decide)
      replace h := ite_t h w1
      refine g_aload_n (pc := 134) (dd d_Stp_nameValue 37 rfl) rfl ?_
      refine g_getr (pc := 135) (dd d_Stp_nameValue 38 rfl) f_Stp_73 (oc_Mch h_x1) rfl (rx_Mch_8 hX h_x1) ?_
      refine g_aload_n (pc := 138) (dd d_Stp_nameValue 39 rfl) rfl ?_
      refine g_geti (pc := 139) (dd d_Stp_nameValue 40 rfl) f_Stp_128 oc_Stp rfl ?_
      obtain ⟨c7, h⟩ := chk_e h
      refine g_iald (pc := 142) (dd d_Stp_nameValue 41 rfl) (ax_Mch_8 h_x1) c7 ?_
      cases h
      exact g_iret (pc := 143) rfl (dd d_Stp_nameValue 42 rfl) hT
    · obtain rfl : off = 143 := (Option.some.inj ho).symm
      refine ⟨144, by decide, ?_⟩
      replace w1 : x2 = 7 := Int32.toInt_inj.mp w1
      replace h := ite_f h (by rw [w1]; decide)
      replace h := ite_f h (by rw [w1]; decide)
      replace h := ite_f h (by rw [w1]; decide)
      replace h := ite_f h (by rw [w1]; decide)
      replace h := ite_f h (by rw [w1]; decide)
      replace h := ite_f h (by rw [w1]; decide)
      replace h := ite_f h (by rw [w1]; decide)
      replace h := ite_t h w1
      refine g_aload_n (pc := 144) (dd d_Stp_nameValue 43 rfl) rfl ?_
      refine g_aload_n (pc := 145) (dd d_Stp_nameValue 44 rfl) rfl ?_
      refine g_aload_n (pc := 146) (dd d_Stp_nameValue 45 rfl) rfl ?_
      refine g_getr (pc := 147) (dd d_Stp_nameValue 46 rfl) f_Stp_162 (oc_Mch h_x1) rfl (rx_Mch_6 hX h_x1) ?_
      obtain ⟨v8, e9, h⟩ := bnd_e h
      refine g_callV (pc := 150) (dd d_Stp_nameValue 47 rfl) v_Stp_165 oc_Stp rfl (ef_Stp_ofWord hX h_x1 (isA_of (ax_Mch_6 h_x1)) e9) rfl (by omega) (Nat.le_of_ble_eq_true rfl) ⟨Nat.zero_le _, Nat.zero_le _⟩ rfl ?_
      cases h
      exact g_iret (pc := 153) rfl (dd d_Stp_nameValue 48 rfl) hT
    · obtain rfl : off = 153 := (Option.some.inj ho).symm
      refine ⟨154, by decide, ?_⟩
      replace w1 : x2 = 8 := Int32.toInt_inj.mp w1
      replace h := ite_f h (by rw [w1]; decide)
      replace h := ite_f h (by rw [w1]; decide)
      replace h := ite_f h (by rw [w1]; decide)
      replace h := ite_f h (by rw [w1]; decide)
      replace h := ite_f h (by rw [w1]; decide)
      replace h := ite_f h (by rw [w1]; decide)
      replace h := ite_f h (by rw [w1]; decide)
      replace h := ite_f h (by rw [w1]; decide)
      replace h := ite_t h w1
      refine g_aload_n (pc := 154) (dd d_Stp_nameValue 49 rfl) rfl ?_
      refine g_aload_n (pc := 155) (dd d_Stp_nameValue 50 rfl) rfl ?_
      refine g_aload_n (pc := 156) (dd d_Stp_nameValue 51 rfl) rfl ?_
      refine g_getr (pc := 157) (dd d_Stp_nameValue 52 rfl) f_Stp_169 (oc_Mch h_x1) rfl (rx_Mch_7 hX h_x1) ?_
      obtain ⟨v10, e11, h⟩ := bnd_e h
      refine g_callV (pc := 160) (dd d_Stp_nameValue 53 rfl) v_Stp_165 oc_Stp rfl (ef_Stp_ofWord hX h_x1 (isA_of (ax_Mch_7 h_x1)) e11) rfl (by omega) (Nat.le_of_ble_eq_true rfl) ⟨Nat.zero_le _, Nat.zero_le _⟩ rfl ?_
      cases h
      exact g_iret (pc := 163) rfl (dd d_Stp_nameValue 54 rfl) hT
    · obtain rfl : off = 163 := (Option.some.inj ho).symm
      refine ⟨164, by decide, ?_⟩
      replace w1 : x2 = 9 := Int32.toInt_inj.mp w1
      replace h := ite_f h (by rw [w1]; decide)
      replace h := ite_f h (by rw [w1]; decide)
      replace h := ite_f h (by rw [w1]; decide)
      replace h := ite_f h (by rw [w1]; decide)
      replace h := ite_f h (by rw [w1]; decide)
      replace h := ite_f h (by rw [w1]; decide)
      replace h := ite_f h (by rw [w1]; decide)
      replace h := ite_f h (by rw [w1]; decide)
      replace h := ite_f h (by rw [w1]; decide)
      replace h := ite_t h w1
      refine g_aload_n (pc := 164) (dd d_Stp_nameValue 55 rfl) rfl ?_
      refine g_geti (pc := 165) (dd d_Stp_nameValue 56 rfl) f_Stp_57 oc_Stp rfl ?_
      refine g_bipush (pc := 168) (v := 18) (dd d_Stp_nameValue 57 rfl) (by decide) ?_
      refine g_icmpne (pc := 170) (tgt := 191) (dd d_Stp_nameValue 58 rfl) (by decide) (fun q12 => ?_) (fun q12 => ?_)
      · replace h := ite_f h q12
        refine g_drop [0, 1, 2] ?_
        exact gb_Stp_nameValue_191 hX h_x1 hk hT  h
      · replace h := ite_t h q12
        refine g_aload_n (pc := 173) (dd d_Stp_nameValue 59 rfl) rfl ?_
        refine g_getr (pc := 174) (dd d_Stp_nameValue_1 0 rfl) f_Stp_36 (oc_Mch h_x1) rfl (rx_Mch_15 hX h_x1) ?_
        refine g_iconst (pc := 177) (v := 5) (dd d_Stp_nameValue_1 1 rfl) (by decide) ?_
        refine g_iald (pc := 178) (dd d_Stp_nameValue_1 2 rfl) (ax_Mch_15 h_x1) (by rw [vp_in_iff]; decide) ?_
        refine g_ifle (pc := 179) (tgt := 191) (dd d_Stp_nameValue_1 3 rfl) (by decide) (fun q13 => ?_) (fun q13 => ?_)
        · replace h := ite_t h q13
          refine g_drop [0, 1, 2] ?_
          exact gb_Stp_nameValue_191 hX h_x1 hk hT  h
        · replace h := ite_f h q13
          refine g_aload_n (pc := 182) (dd d_Stp_nameValue_1 4 rfl) rfl ?_
          refine g_getr (pc := 183) (dd d_Stp_nameValue_1 5 rfl) f_Stp_172 (oc_Mch h_x1) rfl (rx_Mch_11 hX h_x1) ?_
          refine g_iconst (pc := 186) (v := 0) (dd d_Stp_nameValue_1 6 rfl) (by decide) ?_
          refine g_iald (pc := 187) (dd d_Stp_nameValue_1 7 rfl) (ax_Mch_11 h_x1) (by rw [vp_in_iff]; decide) ?_
          refine g_goto (pc := 188) (tgt := 192) (dd d_Stp_nameValue_1 8 rfl) (by decide) ?_
          refine g_drop [0, 1, 2] ?_
          exact gb_Stp_nameValue_192 hX h_x1 hk hT  h
    · obtain rfl : off = 192 := (Option.some.inj ho).symm
      refine ⟨193, by decide, ?_⟩
      replace w1 : x2 = 10 := Int32.toInt_inj.mp w1
      replace h := ite_f h (by rw [w1]; decide)
      replace h := ite_f h (by rw [w1]; decide)
      replace h := ite_f h (by rw [w1]; decide)
      replace h := ite_f h (by rw [w1]; decide)
      replace h := ite_f h (by rw [w1]; decide)
      replace h := ite_f h (by rw [w1]; decide)
      replace h := ite_f h (by rw [w1]; decide)
      replace h := ite_f h (by rw [w1]; decide)
      replace h := ite_f h (by rw [w1]; decide)
      replace h := ite_f h (by rw [w1]; decide)
      replace h := ite_t h w1
      refine g_aload_n (pc := 193) (dd d_Stp_nameValue_1 11 rfl) rfl ?_
      refine g_geti (pc := 194) (dd d_Stp_nameValue_1 12 rfl) f_Stp_131 oc_Stp rfl ?_
      cases h
      exact g_iret (pc := 197) rfl (dd d_Stp_nameValue_1 13 rfl) hT
    · obtain rfl : off = 197 := (Option.some.inj ho).symm
      refine ⟨198, by decide, ?_⟩
      replace w1 : x2 = 11 := Int32.toInt_inj.mp w1
      replace h := ite_f h (by rw [w1]; decide)
      replace h := ite_f h (by rw [w1]; decide)
      replace h := ite_f h (by rw [w1]; decide)
      replace h := ite_f h (by rw [w1]; decide)
      replace h := ite_f h (by rw [w1]; decide)
      replace h := ite_f h (by rw [w1]; decide)
      replace h := ite_f h (by rw [w1]; decide)
      replace h := ite_f h (by rw [w1]; decide)
      replace h := ite_f h (by rw [w1]; decide)
      replace h := ite_f h (by rw [w1]; decide)
      replace h := ite_f h (by rw [w1]; decide)
      replace h := ite_t h w1
      refine g_aload_n (pc := 198) (dd d_Stp_nameValue_1 14 rfl) rfl ?_
      refine g_geti (pc := 199) (dd d_Stp_nameValue_1 15 rfl) f_Stp_41 oc_Stp rfl ?_
      cases h
      exact g_iret (pc := 202) rfl (dd d_Stp_nameValue_1 16 rfl) hT
    · obtain rfl : off = 202 := (Option.some.inj ho).symm
      refine ⟨203, by decide, ?_⟩
      replace w1 : x2 = 12 := Int32.toInt_inj.mp w1
      replace h := ite_f h (by rw [w1]; decide)
      replace h := ite_f h (by rw [w1]; decide)
      replace h := ite_f h (by rw [w1]; decide)
      replace h := ite_f h (by rw [w1]; decide)
      replace h := ite_f h (by rw [w1]; decide)
      replace h := ite_f h (by rw [w1]; decide)
      replace h := ite_f h (by rw [w1]; decide)
      replace h := ite_f h (by rw [w1]; decide)
      replace h := ite_f h (by rw [w1]; decide)
      replace h := ite_f h (by rw [w1]; decide)
      replace h := ite_f h (by rw [w1]; decide)
      replace h := ite_f h (by rw [w1]; decide)
      replace h := ite_t h w1
      refine g_aload_n (pc := 203) (dd d_Stp_nameValue_1 17 rfl) rfl ?_
      refine g_geti (pc := 204) (dd d_Stp_nameValue_1 18 rfl) f_Stp_44 (oc_Mch h_x1) rfl ?_
      cases h
      exact g_iret (pc := 207) rfl (dd d_Stp_nameValue_1 19 rfl) hT
    · obtain rfl : off = 207 := (Option.some.inj ho).symm
      refine ⟨208, by decide, ?_⟩
      replace w1 : x2 = 13 := Int32.toInt_inj.mp w1
      replace h := ite_f h (by rw [w1]; decide)
      replace h := ite_f h (by rw [w1]; decide)
      replace h := ite_f h (by rw [w1]; decide)
      replace h := ite_f h (by rw [w1]; decide)
      replace h := ite_f h (by rw [w1]; decide)
      replace h := ite_f h (by rw [w1]; decide)
      replace h := ite_f h (by rw [w1]; decide)
      replace h := ite_f h (by rw [w1]; decide)
      replace h := ite_f h (by rw [w1]; decide)
      replace h := ite_f h (by rw [w1]; decide)
      replace h := ite_f h (by rw [w1]; decide)
      replace h := ite_f h (by rw [w1]; decide)
      replace h := ite_f h (by rw [w1]; decide)
      replace h := ite_t h w1
      refine g_aload_n (pc := 208) (dd d_Stp_nameValue_1 20 rfl) rfl ?_
      refine g_geti (pc := 209) (dd d_Stp_nameValue_1 21 rfl) f_Stp_175 (oc_Mch h_x1) rfl ?_
      cases h
      exact g_iret (pc := 212) rfl (dd d_Stp_nameValue_1 22 rfl) hT
    · obtain rfl : off = 212 := (Option.some.inj ho).symm
      refine ⟨213, by decide, ?_⟩
      replace w1 : x2 = 14 := Int32.toInt_inj.mp w1
      replace h := ite_f h (by rw [w1]; decide)
      replace h := ite_f h (by rw [w1]; decide)
      replace h := ite_f h (by rw [w1]; decide)
      replace h := ite_f h (by rw [w1]; decide)
      replace h := ite_f h (by rw [w1]; decide)
      replace h := ite_f h (by rw [w1]; decide)
      replace h := ite_f h (by rw [w1]; decide)
      replace h := ite_f h (by rw [w1]; decide)
      replace h := ite_f h (by rw [w1]; decide)
      replace h := ite_f h (by rw [w1]; decide)
      replace h := ite_f h (by rw [w1]; decide)
      replace h := ite_f h (by rw [w1]; decide)
      replace h := ite_f h (by rw [w1]; decide)
      replace h := ite_f h (by rw [w1]; decide)
      replace h := ite_t h w1
      refine g_aload_n (pc := 213) (dd d_Stp_nameValue_1 23 rfl) rfl ?_
      refine g_getr (pc := 214) (dd d_Stp_nameValue_1 24 rfl) f_Stp_36 (oc_Mch h_x1) rfl (rx_Mch_15 hX h_x1) ?_
      refine g_bipush (pc := 217) (v := 6) (dd d_Stp_nameValue_1 25 rfl) (by decide) ?_
      refine g_iald (pc := 219) (dd d_Stp_nameValue_1 26 rfl) (ax_Mch_15 h_x1) (by rw [vp_in_iff]; decide) ?_
      refine g_iconst (pc := 220) (v := 2) (dd d_Stp_nameValue_1 27 rfl) (by decide) ?_
      refine g_iadd (pc := 221) (dd d_Stp_nameValue_1 28 rfl) ?_
      cases h
      exact g_iret (pc := 222) rfl (dd d_Stp_nameValue_1 29 rfl) hT
    · cases ho
  · skip
    replace w1 : x2.toInt < 0 ∨ 14 < x2.toInt := w1
    replace h := ite_f h (fun e => by rw [e] at w1; revert w1; decide)
    replace h := ite_f h (fun e => by rw [e] at w1; revert w1; decide)
    replace h := ite_f h (fun e => by rw [e] at w1; revert w1; decide)
    replace h := ite_f h (fun e => by rw [e] at w1; revert w1; decide)
    replace h := ite_f h (fun e => by rw [e] at w1; revert w1; decide)
    replace h := ite_f h (fun e => by rw [e] at w1; revert w1; decide)
    replace h := ite_f h (fun e => by rw [e] at w1; revert w1; decide)
    replace h := ite_f h (fun e => by rw [e] at w1; revert w1; decide)
    replace h := ite_f h (fun e => by rw [e] at w1; revert w1; decide)
    replace h := ite_f h (fun e => by rw [e] at w1; revert w1; decide)
    replace h := ite_f h (fun e => by rw [e] at w1; revert w1; decide)
    replace h := ite_f h (fun e => by rw [e] at w1; revert w1; decide)
    replace h := ite_f h (fun e => by rw [e] at w1; revert w1; decide)
    replace h := ite_f h (fun e => by rw [e] at w1; revert w1; decide)
    replace h := ite_f h (fun e => by rw [e] at w1; revert w1; decide)
    refine g_iconst (pc := 223) (v := 0) (dd d_Stp_nameValue_1 30 rfl) (by decide) ?_
    cases h
    exact g_iret (pc := 224) rfl (dd d_Stp_nameValue_1 31 rfl) hT
def b_Stp_fillQuestion_50 (n : Nat) (x1 : Nat) (H15 : Int32 → Int32 → IM → Option (IM)) (x2 : Int32) (x3 : Int32) (y2 : Int32) (y1 : Int32) (I : IM) : Option (IM) := chk (inb y1 25) <| lt (up I 37 y1.toNatClampNeg (y2)) fun I7 => H15 x2 (x3 + 1) I7
set_option maxRecDepth 20000 in
set_option maxHeartbeats 4000000 in
theorem gb_Stp_fillQuestion_50 {Δ : Dx} {X : Lx} {rl hd ot pt it : Nat} (hX : EX Δ X rl hd ot pt it) {x1 : Nat} (h_x1 : isMch x1) {n : Nat} {Γ : Cx} (hk : Γ.k = 3) {r : IM} (hT : Tg Δ Γ none NN (r, X) 0 0) {H15 : Int32 → Int32 → IM → Option (IM)} (hH15 : ∀ (x2 : Int32) (x3 : Int32) (I : IM), H15 x2 x3 I = some r → GG Δ m_Stp_fillQuestion Γ NN 0 0 (I, X) 15 [some (.ref (Δ.ba + 35)), some (.ref (Δ.ba + x1)), some (.int (x2)), some (.int (x3))] []) {x2 : Int32} {x3 : Int32} {y2 : Int32} {y1 : Int32} {I : IM} (h : b_Stp_fillQuestion_50 n x1 H15 x2 x3 y2 y1 I = some r) : GG Δ m_Stp_fillQuestion Γ NN 0 0 (I, X) 50 [some (.ref (Δ.ba + 35)), some (.ref (Δ.ba + x1)), some (.int (x2)), some (.int (x3))] [.int (y2), .int (y1), .ref (Δ.ba + 37)] := by
  unfold b_Stp_fillQuestion_50 at h
  obtain ⟨c6, h⟩ := chk_e h
  refine g_iastN (pc := 50) (dd d_Stp_fillQuestion 30 rfl) (ax_Wrk_0 (a := 36) (by decide)) c6 (fun I7 hI7 => ?_)
  replace h := lt_e h hI7
  refine g_iincW (pc := 51) (w := 1) (dd d_Stp_fillQuestion 31 rfl) rfl (by decide) (by decide) ?_
  refine g_goto (pc := 54) (tgt := 15) (dd d_Stp_fillQuestion 32 rfl) (by decide) ?_
  exact hH15 _ _ _ h
def l_Stp_fillQuestion_15 (n : Nat) (x1 : Nat)  : Nat → Int32 → Int32 → IM → Option (IM)
  | 0, _, _, _ => none
  | f + 1, x2, x3, I => if (15 : Int32) ≤ x3 then (some I) else (if (((x2 : Int32) >>> ((x3 : Int32) &&& 31)) &&& 1 : Int32) = 0 then (b_Stp_fillQuestion_50 n x1 (l_Stp_fillQuestion_15 n x1  f) x2 x3 0 (10 + x3) I) else (Option.bind (f_Stp_nameValue  x1 x3 I) fun v4 => b_Stp_fillQuestion_50 n x1 (l_Stp_fillQuestion_15 n x1  f) x2 x3 v4 (10 + x3) I))
set_option maxRecDepth 20000 in
set_option maxHeartbeats 4000000 in
theorem gl_Stp_fillQuestion_15 {Δ : Dx} {X : Lx} {rl hd ot pt it : Nat} (hX : EX Δ X rl hd ot pt it) {x1 : Nat} (h_x1 : isMch x1) {n : Nat} {Γ : Cx} (hk : Γ.k = 3) {r : IM} (hT : Tg Δ Γ none NN (r, X) 0 0)  : ∀ (f : Nat) (x2 : Int32) (x3 : Int32) (I : IM), l_Stp_fillQuestion_15 n x1  f x2 x3 I = some r → GG Δ m_Stp_fillQuestion Γ NN 0 0 (I, X) 15 [some (.ref (Δ.ba + 35)), some (.ref (Δ.ba + x1)), some (.int (x2)), some (.int (x3))] []
  | 0, _, _, _, h => by cases h
  | f + 1, x2, x3, I, h => by
    have ih := gl_Stp_fillQuestion_15 (n := n) (x1 := x1) hX h_x1 hk hT  f
    rw [l_Stp_fillQuestion_15] at h
    refine g_iload_n (pc := 15) (dd d_Stp_fillQuestion 9 rfl) rfl ?_
    refine g_bipush (pc := 16) (v := 15) (dd d_Stp_fillQuestion 10 rfl) (by decide) ?_
    refine g_icmpge (pc := 18) (tgt := 57) (dd d_Stp_fillQuestion 11 rfl) (by decide) (fun q2 => ?_) (fun q2 => ?_)
    · replace h := ite_t h q2
      cases h
      exact g_vret (pc := 57) rfl (dd d_Stp_fillQuestion 33 rfl) hT
    · replace h := ite_f h q2
      refine g_aload_n (pc := 21) (dd d_Stp_fillQuestion 12 rfl) rfl ?_
      refine g_getr (pc := 22) (dd d_Stp_fillQuestion 13 rfl) f_Stp_12 oc_Stp rfl (rx_Stp_0 hX) ?_
      refine g_getr (pc := 25) (dd d_Stp_fillQuestion 14 rfl) f_Stp_102 (oc_Wrk (by decide)) rfl (rx_Wrk_0 (a := 36) hX (by decide)) ?_
      refine g_bipush (pc := 28) (v := 10) (dd d_Stp_fillQuestion 15 rfl) (by decide) ?_
      refine g_iload_n (pc := 30) (dd d_Stp_fillQuestion 16 rfl) rfl ?_
      refine g_iadd (pc := 31) (dd d_Stp_fillQuestion 17 rfl) ?_
      refine g_iload_n (pc := 32) (dd d_Stp_fillQuestion 18 rfl) rfl ?_
      refine g_iload_n (pc := 33) (dd d_Stp_fillQuestion 19 rfl) rfl ?_
      refine g_ishr (pc := 34) (dd d_Stp_fillQuestion 20 rfl) ?_
      refine g_iconst (pc := 35) (v := 1) (dd d_Stp_fillQuestion 21 rfl) (by decide) ?_
      refine g_iand (pc := 36) (dd d_Stp_fillQuestion 22 rfl) ?_
      refine g_ifne (pc := 37) (tgt := 44) (dd d_Stp_fillQuestion 23 rfl) (by decide) (fun q3 => ?_) (fun q3 => ?_)
      · replace h := ite_f h q3
        refine g_aload_n (pc := 44) (dd d_Stp_fillQuestion 26 rfl) rfl ?_
        refine g_aload_n (pc := 45) (dd d_Stp_fillQuestion 27 rfl) rfl ?_
        refine g_iload_n (pc := 46) (dd d_Stp_fillQuestion 28 rfl) rfl ?_
        obtain ⟨v4, e5, h⟩ := bnd_e h
        refine g_callV (pc := 47) (dd d_Stp_fillQuestion 29 rfl) v_Stp_155 oc_Stp rfl (ef_Stp_nameValue hX h_x1 e5) rfl (by omega) (Nat.le_of_ble_eq_true rfl) ⟨Nat.zero_le _, Nat.zero_le _⟩ rfl ?_
        exact gb_Stp_fillQuestion_50 hX h_x1 hk hT ih h
      · replace h := ite_t h q3
        refine g_iconst (pc := 40) (v := 0) (dd d_Stp_fillQuestion 24 rfl) (by decide) ?_
        refine g_goto (pc := 41) (tgt := 50) (dd d_Stp_fillQuestion 25 rfl) (by decide) ?_
        exact gb_Stp_fillQuestion_50 hX h_x1 hk hT ih h
def f_Stp_fillQuestion (n : Nat) (x1 : Nat) (x2 : Int32) (I : IM) : Option (IM) := lt (up I 37 (0 : Int32).toNatClampNeg (I 35 4)) fun I1 => l_Stp_fillQuestion_15 n x1  n x2 0 I1
set_option maxRecDepth 20000 in
set_option maxHeartbeats 4000000 in
theorem ef_Stp_fillQuestion {Δ : Dx} {X : Lx} {rl hd ot pt it : Nat} (hX : EX Δ X rl hd ot pt it) {n : Nat} {x1 : Nat} {x2 : Int32} (h_x1 : isMch x1) {I : IM}  {r : IM} (h : f_Stp_fillQuestion n x1 x2 I = some r) : Ev Δ (3) m_Stp_fillQuestion [.ref (Δ.ba + 35), .ref (Δ.ba + x1), .int x2] (I, X) none (r, X) := by
  refine ev_of (by decide) (Nat.le_of_ble_eq_true rfl) (fun Γ hk hR hT => ?_)
  change GG Δ m_Stp_fillQuestion Γ NN 0 0 (I, X) 0 [some (.ref (Δ.ba + 35)), some (.ref (Δ.ba + x1)), some (.int (x2)), none] []
  unfold f_Stp_fillQuestion at h
  refine g_aload_n (pc := 0) (dd d_Stp_fillQuestion 0 rfl) rfl ?_
  refine g_getr (pc := 1) (dd d_Stp_fillQuestion 1 rfl) f_Stp_12 oc_Stp rfl (rx_Stp_0 hX) ?_
  refine g_getr (pc := 4) (dd d_Stp_fillQuestion 2 rfl) f_Stp_102 (oc_Wrk (by decide)) rfl (rx_Wrk_0 (a := 36) hX (by decide)) ?_
  refine g_iconst (pc := 7) (v := 0) (dd d_Stp_fillQuestion 3 rfl) (by decide) ?_
  refine g_aload_n (pc := 8) (dd d_Stp_fillQuestion 4 rfl) rfl ?_
  refine g_geti (pc := 9) (dd d_Stp_fillQuestion 5 rfl) f_Stp_57 oc_Stp rfl ?_
  refine g_iastN (pc := 12) (dd d_Stp_fillQuestion 6 rfl) (ax_Wrk_0 (a := 36) (by decide)) (by rw [vp_in_iff]; decide) (fun I1 hI1 => ?_)
  replace h := lt_e h hI1
  refine g_iconst (pc := 13) (v := 0) (dd d_Stp_fillQuestion 7 rfl) (by decide) ?_
  refine g_istore_n (pc := 14) (dd d_Stp_fillQuestion 8 rfl) (by decide) ?_
  exact gl_Stp_fillQuestion_15 hX h_x1 hk hT  _ _ _ _ h
def b_Pol_mayBeCompared_25 (x0 : Nat) (I : IM)  (y0 : Int32) : Option (Int32) := chk (y0 = 0 ∨ y0 = 1) <| some (y0)
set_option maxRecDepth 20000 in
set_option maxHeartbeats 4000000 in
theorem gb_Pol_mayBeCompared_25 {Δ : Dx} {X : Lx} {rl hd ot pt it : Nat} (hX : EX Δ X rl hd ot pt it) {x0 : Nat} (h_x0 : isPol x0) {I : IM} {Γ : Cx} (hk : Γ.k = 1) {r : Int32} (hT : Tg Δ Γ (some (.int r)) NN (I, X) 0 0)  {y0 : Int32} (h : b_Pol_mayBeCompared_25 x0 I  y0 = some r) : GG Δ m_Pol_mayBeCompared Γ NN 0 0 (I, X) 25 [none, none] [.int (y0)] := by
  unfold b_Pol_mayBeCompared_25 at h
  obtain ⟨c6, h⟩ := chk_e h
  cases h
  exact g_zret (pc := 25) rfl c6 (dd d_Pol_mayBeCompared 14 rfl) hT
def b_Pol_mayBeCompared_24 (x0 : Nat) (I : IM)   : Option (Int32) := b_Pol_mayBeCompared_25 x0 I  0
set_option maxRecDepth 20000 in
set_option maxHeartbeats 4000000 in
theorem gb_Pol_mayBeCompared_24 {Δ : Dx} {X : Lx} {rl hd ot pt it : Nat} (hX : EX Δ X rl hd ot pt it) {x0 : Nat} (h_x0 : isPol x0) {I : IM} {Γ : Cx} (hk : Γ.k = 1) {r : Int32} (hT : Tg Δ Γ (some (.int r)) NN (I, X) 0 0)   (h : b_Pol_mayBeCompared_24 x0 I   = some r) : GG Δ m_Pol_mayBeCompared Γ NN 0 0 (I, X) 24 [none, none] [] := by
  unfold b_Pol_mayBeCompared_24 at h
  refine g_iconst (pc := 24) (v := 0) (dd d_Pol_mayBeCompared 13 rfl) (by decide) ?_
  exact gb_Pol_mayBeCompared_25 hX h_x0 hk hT  h
def f_Pol_mayBeCompared (x0 : Nat) (x1 : Int32) (I : IM) : Option (Int32) := Option.bind (f_Pol_hasRule  x0 x1 I) fun v1 => if v1 = 0 then (b_Pol_mayBeCompared_24 x0 I  ) else (chk (inb x1 22) <| some (if ((I (x0 + 5) x1.toNatClampNeg) &&& 98304 : Int32) = 0 then 1 else 0))
set_option maxRecDepth 20000 in
set_option maxHeartbeats 4000000 in
theorem ef_Pol_mayBeCompared {Δ : Dx} {X : Lx} {rl hd ot pt it : Nat} (hX : EX Δ X rl hd ot pt it) {x0 : Nat} {x1 : Int32} (h_x0 : isPol x0) {I : IM}  {r : Int32} (h : f_Pol_mayBeCompared x0 x1 I = some r) : Ev Δ (1) m_Pol_mayBeCompared [.ref (Δ.ba + x0), .int x1] (I, X) (some (.int r)) (I, X) := by
  refine ev_of (by decide) (Nat.le_of_ble_eq_true rfl) (fun Γ hk hR hT => ?_)
  change GG Δ m_Pol_mayBeCompared Γ NN 0 0 (I, X) 0 [some (.ref (Δ.ba + x0)), some (.int (x1))] []
  unfold f_Pol_mayBeCompared at h
  refine g_aload_n (pc := 0) (dd d_Pol_mayBeCompared 0 rfl) rfl ?_
  refine g_iload_n (pc := 1) (dd d_Pol_mayBeCompared 1 rfl) rfl ?_
  obtain ⟨v1, e2, h⟩ := bnd_e h
  refine g_callV (pc := 2) (dd d_Pol_mayBeCompared 2 rfl) v_Pol_40 (oc_Pol h_x0) rfl (ef_Pol_hasRule hX h_x0 e2) rfl (by omega) (Nat.le_of_ble_eq_true rfl) ⟨Nat.zero_le _, Nat.zero_le _⟩ rfl ?_
  refine g_ifeq (pc := 5) (tgt := 24) (dd d_Pol_mayBeCompared 3 rfl) (by decide) (fun q3 => ?_) (fun q3 => ?_)
  · replace h := ite_t h q3
    refine g_drop [0, 1] ?_
    exact gb_Pol_mayBeCompared_24 hX h_x0 hk hT  h
  · replace h := ite_f h q3
    refine g_aload_n (pc := 8) (dd d_Pol_mayBeCompared 4 rfl) rfl ?_
    refine g_getr (pc := 9) (dd d_Pol_mayBeCompared 5 rfl) f_Pol_24 (oc_Pol h_x0) rfl (rx_Pol_5 hX h_x0) ?_
    refine g_iload_n (pc := 12) (dd d_Pol_mayBeCompared 6 rfl) rfl ?_
    obtain ⟨c4, h⟩ := chk_e h
    refine g_iald (pc := 13) (dd d_Pol_mayBeCompared 7 rfl) (ax_Pol_5 h_x0) c4 ?_
    refine g_ldc (pc := 14) (dd d_Pol_mayBeCompared 8 rfl) c_Pol_44 ?_
    refine g_iand (pc := 16) (dd d_Pol_mayBeCompared 9 rfl) ?_
    suffices K17 : ∀ z : Int32, z = (if ((I (x0 + 5) x1.toNatClampNeg) &&& 98304 : Int32) = 0 then 1 else 0 : Int32) → GG Δ m_Pol_mayBeCompared Γ NN 0 0 (I, X) 25 [some (.ref (Δ.ba + x0)), some (.int (x1))] [.int (z)] by
      refine g_ifne (pc := 17) (tgt := 24) (dd d_Pol_mayBeCompared 10 rfl) (by decide) (fun q5 => ?_) (fun q5 => ?_)
      · skip
        refine g_iconst (pc := 24) (v := 0) (dd d_Pol_mayBeCompared 13 rfl) (by decide) ?_
        exact K17 _ (by rw [if_neg q5])
      · skip
        refine g_iconst (pc := 20) (v := 1) (dd d_Pol_mayBeCompared 11 rfl) (by decide) ?_
        refine g_goto (pc := 21) (tgt := 25) (dd d_Pol_mayBeCompared 12 rfl) (by decide) ?_
        exact K17 _ (by rw [if_pos q5])
    intro z hz
    subst hz
    cases h
    exact g_zret (pc := 25) rfl (by (repeat' split) <;> first | exact Or.inl rfl | exact Or.inr rfl) (dd d_Pol_mayBeCompared 14 rfl) hT
def l_Wrk_forgetAnswer_2 (n : Nat) (x0 : Nat)  : Nat → Int32 → IM → Option (IM)
  | 0, _, _ => none
  | f + 1, x1, I => if (10 : Int32) ≤ x1 then (lt (up I (x0 + 1) (5 : Int32).toNatClampNeg ((-1))) fun I2 => some I2) else (chk (inb x1 25) <| lt (up I (x0 + 1) x1.toNatClampNeg (0)) fun I4 => (l_Wrk_forgetAnswer_2 n x0  f) (x1 + 1) I4)
set_option maxRecDepth 20000 in
set_option maxHeartbeats 4000000 in
theorem gl_Wrk_forgetAnswer_2 {Δ : Dx} {X : Lx} {rl hd ot pt it : Nat} (hX : EX Δ X rl hd ot pt it) {x0 : Nat} (h_x0 : isWrk x0) {n : Nat} {Γ : Cx} (hk : Γ.k = 0) {r : IM} (hT : Tg Δ Γ none NN (r, X) 0 0)  : ∀ (f : Nat) (x1 : Int32) (I : IM), l_Wrk_forgetAnswer_2 n x0  f x1 I = some r → GG Δ m_Wrk_forgetAnswer Γ NN 0 0 (I, X) 2 [some (.ref (Δ.ba + x0)), some (.int (x1))] []
  | 0, _, _, h => by cases h
  | f + 1, x1, I, h => by
    have ih := gl_Wrk_forgetAnswer_2 (n := n) (x0 := x0) hX h_x0 hk hT  f
    rw [l_Wrk_forgetAnswer_2] at h
    refine g_iload_n (pc := 2) (dd d_Wrk_forgetAnswer 2 rfl) rfl ?_
    refine g_bipush (pc := 3) (v := 10) (dd d_Wrk_forgetAnswer 3 rfl) (by decide) ?_
    refine g_icmpge (pc := 5) (tgt := 21) (dd d_Wrk_forgetAnswer 4 rfl) (by decide) (fun q1 => ?_) (fun q1 => ?_)
    · replace h := ite_t h q1
      refine g_aload_n (pc := 21) (dd d_Wrk_forgetAnswer 12 rfl) rfl ?_
      refine g_getr (pc := 22) (dd d_Wrk_forgetAnswer 13 rfl) f_Wrk_9 (oc_Wrk h_x0) rfl (rx_Wrk_0 hX h_x0) ?_
      refine g_iconst (pc := 25) (v := 5) (dd d_Wrk_forgetAnswer 14 rfl) (by decide) ?_
      refine g_iconst (pc := 26) (v := (-1)) (dd d_Wrk_forgetAnswer 15 rfl) (by decide) ?_
      refine g_iastN (pc := 27) (dd d_Wrk_forgetAnswer 16 rfl) (ax_Wrk_0 h_x0) (by rw [vp_in_iff]; decide) (fun I2 hI2 => ?_)
      replace h := lt_e h hI2
      cases h
      exact g_vret (pc := 28) rfl (dd d_Wrk_forgetAnswer 17 rfl) hT
    · replace h := ite_f h q1
      refine g_aload_n (pc := 8) (dd d_Wrk_forgetAnswer 5 rfl) rfl ?_
      refine g_getr (pc := 9) (dd d_Wrk_forgetAnswer 6 rfl) f_Wrk_9 (oc_Wrk h_x0) rfl (rx_Wrk_0 hX h_x0) ?_
      refine g_iload_n (pc := 12) (dd d_Wrk_forgetAnswer 7 rfl) rfl ?_
      refine g_iconst (pc := 13) (v := 0) (dd d_Wrk_forgetAnswer 8 rfl) (by decide) ?_
      obtain ⟨c3, h⟩ := chk_e h
      refine g_iastN (pc := 14) (dd d_Wrk_forgetAnswer 9 rfl) (ax_Wrk_0 h_x0) c3 (fun I4 hI4 => ?_)
      replace h := lt_e h hI4
      refine g_iincW (pc := 15) (w := 1) (dd d_Wrk_forgetAnswer 10 rfl) rfl (by decide) (by decide) ?_
      refine g_goto (pc := 18) (tgt := 2) (dd d_Wrk_forgetAnswer 11 rfl) (by decide) ?_
      exact ih _ _ h
def f_Wrk_forgetAnswer (n : Nat) (x0 : Nat) (I : IM) : Option (IM) := l_Wrk_forgetAnswer_2 n x0  n 1 I
set_option maxRecDepth 20000 in
set_option maxHeartbeats 4000000 in
theorem ef_Wrk_forgetAnswer {Δ : Dx} {X : Lx} {rl hd ot pt it : Nat} (hX : EX Δ X rl hd ot pt it) {n : Nat} {x0 : Nat} (h_x0 : isWrk x0) {I : IM}  {r : IM} (h : f_Wrk_forgetAnswer n x0 I = some r) : Ev Δ (0) m_Wrk_forgetAnswer [.ref (Δ.ba + x0)] (I, X) none (r, X) := by
  refine ev_of (by decide) (Nat.le_of_ble_eq_true rfl) (fun Γ hk hR hT => ?_)
  change GG Δ m_Wrk_forgetAnswer Γ NN 0 0 (I, X) 0 [some (.ref (Δ.ba + x0)), none] []
  unfold f_Wrk_forgetAnswer at h
  refine g_iconst (pc := 0) (v := 1) (dd d_Wrk_forgetAnswer 0 rfl) (by decide) ?_
  refine g_istore_n (pc := 1) (dd d_Wrk_forgetAnswer 1 rfl) (by decide) ?_
  exact gl_Wrk_forgetAnswer_2 hX h_x0 hk hT  _ _ _ h
