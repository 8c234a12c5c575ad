/-! the reference: each method a function, and its contract -/
def f_Mod_thrown  (I : IM) : Option (Int32) := some (I MO 0)
set_option maxRecDepth 20000 in
set_option maxHeartbeats 4000000 in
theorem ef_Mod_thrown {Δ : Dx} {X : Lx} (hX : MX Δ X)   {I : IM}  {r : Int32} (h : f_Mod_thrown  I = some r) : Ev Δ 0 m_Mod_thrown [.ref (Δ.ba + MO)] (I, X) (some (.int r)) (I, X) := by
  refine ev_of (by decide) (Nat.le_of_ble_eq_true rfl) (fun Γ hk hR hT => ?_)
  change GG Δ m_Mod_thrown Γ NN 0 0 (I, X) 0 [some (.ref (Δ.ba + MO))] []
  unfold f_Mod_thrown at h
  refine g_aload_n (pc := 0) (dd d_Mod_thrown 0 rfl) rfl ?_
  refine g_geti (pc := 1) (dd d_Mod_thrown 1 rfl) f_Mod_240 ob_MO rfl ?_
  cases h
  exact g_iret (pc := 4) rfl (dd d_Mod_thrown 2 rfl) hT
def f_Mod_refuse (x1 : Int32) (x2 : Int32) (I : IM) : Option (Int32 × IM) := lt (up I MO 0 (if x1 = 0 then (if x2 = 0 then 0 else 2) else 1)) fun I3 => some (if (I3 MO 0 : Int32) ≤ 0 then 0 else 1, I3)
set_option maxRecDepth 20000 in
set_option maxHeartbeats 4000000 in
theorem ef_Mod_refuse {Δ : Dx} {X : Lx} (hX : MX Δ X) {x1 : Int32} {x2 : Int32}  {I : IM}  {r : Int32 × IM} (h : f_Mod_refuse x1 x2 I = some r) : Ev Δ 0 m_Mod_refuse [.ref (Δ.ba + MO), .int x1, .int x2] (I, X) (some (.int r.1)) (r.2, X) := by
  refine ev_of (by decide) (Nat.le_of_ble_eq_true rfl) (fun Γ hk hR hT => ?_)
  change GG Δ m_Mod_refuse Γ NN 0 0 (I, X) 0 [some (.ref (Δ.ba + MO)), some (.int (x1)), some (.int (x2))] []
  unfold f_Mod_refuse at h
  refine g_aload_n (pc := 0) (dd d_Mod_refuse 0 rfl) rfl ?_
  refine g_iload_n (pc := 1) (dd d_Mod_refuse 1 rfl) rfl ?_
  suffices K2 : ∀ z : Int32, z = (if x1 = 0 then (if x2 = 0 then 0 else 2) else 1 : Int32) → GG Δ m_Mod_refuse Γ NN 0 0 (I, X) 18 [some (.ref (Δ.ba + MO)), some (.int (x1)), some (.int (x2))] [.int (z), .ref (Δ.ba + MO)] by
    refine g_ifeq (pc := 2) (tgt := 9) (dd d_Mod_refuse 2 rfl) (by decide) (fun q1 => ?_) (fun q1 => ?_)
    · skip
      refine g_iload_n (pc := 9) (dd d_Mod_refuse 5 rfl) rfl ?_
      refine g_ifeq (pc := 10) (tgt := 17) (dd d_Mod_refuse 6 rfl) (by decide) (fun q2 => ?_) (fun q2 => ?_)
      · skip
        refine g_iconst (pc := 17) (v := 0) (dd d_Mod_refuse 9 rfl) (by decide) ?_
        exact K2 _ (by rw [if_pos q1, if_pos q2])
      · skip
        refine g_iconst (pc := 13) (v := 2) (dd d_Mod_refuse 7 rfl) (by decide) ?_
        refine g_goto (pc := 14) (tgt := 18) (dd d_Mod_refuse 8 rfl) (by decide) ?_
        exact K2 _ (by rw [if_pos q1, if_neg q2])
    · skip
      refine g_iconst (pc := 5) (v := 1) (dd d_Mod_refuse 3 rfl) (by decide) ?_
      refine g_goto (pc := 6) (tgt := 18) (dd d_Mod_refuse 4 rfl) (by decide) ?_
      exact K2 _ (by rw [if_neg q1])
  intro z hz
  subst hz
  refine g_putiN (pc := 18) (dd d_Mod_refuse 10 rfl) f_Mod_240 fm_Mod_0 ob_MO rfl (fun I3 hI3 => ?_)
  replace h := lt_e h hI3
  refine g_aload_n (pc := 21) (dd d_Mod_refuse 11 rfl) rfl ?_
  refine g_geti (pc := 22) (dd d_Mod_refuse 12 rfl) f_Mod_240 ob_MO rfl ?_
  suffices K25 : ∀ z : Int32, z = (if (I3 MO 0 : Int32) ≤ 0 then 0 else 1 : Int32) → GG Δ m_Mod_refuse Γ NN 0 0 (I3, X) 33 [some (.ref (Δ.ba + MO)), some (.int (x1)), some (.int (x2))] [.int (z)] by
    refine g_ifle (pc := 25) (tgt := 32) (dd d_Mod_refuse 13 rfl) (by decide) (fun q4 => ?_) (fun q4 => ?_)
    · skip
      refine g_iconst (pc := 32) (v := 0) (dd d_Mod_refuse 16 rfl) (by decide) ?_
      exact K25 _ (by rw [if_pos q4])
    · skip
      refine g_iconst (pc := 28) (v := 1) (dd d_Mod_refuse 14 rfl) (by decide) ?_
      refine g_goto (pc := 29) (tgt := 33) (dd d_Mod_refuse 15 rfl) (by decide) ?_
      exact K25 _ (by rw [if_neg q4])
  intro z hz
  subst hz
  cases h
  exact g_zret (pc := 33) rfl (by (repeat' split) <;> first | exact Or.inl rfl | exact Or.inr rfl) (dd d_Mod_refuse 17 rfl) hT
def f_Mod_in (x0 : Int32) (x1 : Int32) (x2 : Int32) (I : IM) : Option (Int32) := some (if x0 < x1 then 0 else (if x2 < x0 then 0 else 1))
set_option maxRecDepth 20000 in
set_option maxHeartbeats 4000000 in
theorem ef_Mod_in {Δ : Dx} {X : Lx} (hX : MX Δ X) {x0 : Int32} {x1 : Int32} {x2 : Int32}  {I : IM}  {r : Int32} (h : f_Mod_in x0 x1 x2 I = some r) : Ev Δ 0 m_Mod_in [.int x0, .int x1, .int x2] (I, X) (some (.int r)) (I, X) := by
  refine ev_of (by decide) (Nat.le_of_ble_eq_true rfl) (fun Γ hk hR hT => ?_)
  change GG Δ m_Mod_in Γ NN 0 0 (I, X) 0 [some (.int (x0)), some (.int (x1)), some (.int (x2))] []
  unfold f_Mod_in at h
  refine g_iload_n (pc := 0) (dd d_Mod_in 0 rfl) rfl ?_
  refine g_iload_n (pc := 1) (dd d_Mod_in 1 rfl) rfl ?_
  suffices K2 : ∀ z : Int32, z = (if x0 < x1 then 0 else (if x2 < x0 then 0 else 1) : Int32) → GG Δ m_Mod_in Γ NN 0 0 (I, X) 15 [some (.int (x0)), some (.int (x1)), some (.int (x2))] [.int (z)] by
    refine g_icmplt (pc := 2) (tgt := 14) (dd d_Mod_in 2 rfl) (by decide) (fun q1 => ?_) (fun q1 => ?_)
    · skip
      refine g_iconst (pc := 14) (v := 0) (dd d_Mod_in 8 rfl) (by decide) ?_
      exact K2 _ (by rw [if_pos q1])
    · skip
      refine g_iload_n (pc := 5) (dd d_Mod_in 3 rfl) rfl ?_
      refine g_iload_n (pc := 6) (dd d_Mod_in 4 rfl) rfl ?_
      refine g_icmpgt (pc := 7) (tgt := 14) (dd d_Mod_in 5 rfl) (by decide) (fun q2 => ?_) (fun q2 => ?_)
      · skip
        refine g_iconst (pc := 14) (v := 0) (dd d_Mod_in 8 rfl) (by decide) ?_
        exact K2 _ (by rw [if_neg q1, if_pos q2])
      · skip
        refine g_iconst (pc := 10) (v := 1) (dd d_Mod_in 6 rfl) (by decide) ?_
        refine g_goto (pc := 11) (tgt := 15) (dd d_Mod_in 7 rfl) (by decide) ?_
        exact K2 _ (by rw [if_neg q1, if_neg q2])
  intro z hz
  subst hz
  cases h
  exact g_zret (pc := 15) rfl (by (repeat' split) <;> first | exact Or.inl rfl | exact Or.inr rfl) (dd d_Mod_in 9 rfl) hT
def b_Mod_put_59 (n : Nat) (H7 : Int32 → Int32 → Int32 → Int32 → IM → Option (Int32 × IM)) (x1 : Int32) (x2 : Int32) (x4 : Int32) (x5 : Int32) (y0 : Int32) (I : IM) : Option (Int32 × IM) := H7 x1 (if x5 ≤ 0 then x2 else ((x2) + (1))) y0 (x4 + 1) I
set_option maxRecDepth 20000 in
set_option maxHeartbeats 4000000 in
theorem gb_Mod_put_59 {Δ : Dx} {X : Lx} (hX : MX Δ X)   {n : Nat} {Γ : Cx} (hk : Γ.k = 1) {r : Int32 × IM} (hT : Tg Δ Γ (some (.int r.1)) NN (r.2, X) 0 0) {H7 : Int32 → Int32 → Int32 → Int32 → IM → Option (Int32 × IM)} (hH7 : ∀ (x1 : Int32) (x2 : Int32) (x3 : Int32) (x4 : Int32) (I : IM), H7 x1 x2 x3 x4 I = some r → GG Δ m_Mod_put Γ NN 0 0 (I, X) 7 [some (.ref (Δ.ba + MO)), some (.int (x1)), some (.int (x2)), some (.int (x3)), some (.int (x4)), none] []) {x1 : Int32} {x2 : Int32} {x4 : Int32} {x5 : Int32} {y0 : Int32} {I : IM} (h : b_Mod_put_59 n H7 x1 x2 x4 x5 y0 I = some r) : GG Δ m_Mod_put Γ NN 0 0 (I, X) 59 [some (.ref (Δ.ba + MO)), some (.int (x1)), some (.int (x2)), none, some (.int (x4)), some (.int (x5))] [.int (y0)] := by
  unfold b_Mod_put_59 at h
  refine g_istore_n (pc := 59) (dd d_Mod_put 32 rfl) (by decide) ?_
  refine g_iload (pc := 60) (dd d_Mod_put 33 rfl) rfl ?_
  suffices K62 : ∀ z : Int32, z = (if x5 ≤ 0 then x2 else ((x2) + (1)) : Int32) → GG Δ m_Mod_put Γ NN 0 0 (I, X) 72 [some (.ref (Δ.ba + MO)), some (.int (x1)), some (.int (x2)), some (.int (y0)), some (.int (x4)), some (.int (x5))] [.int (z)] by
    refine g_ifle (pc := 62) (tgt := 71) (dd d_Mod_put 34 rfl) (by decide) (fun q14 => ?_) (fun q14 => ?_)
    · skip
      refine g_iload_n (pc := 71) (dd d_Mod_put 39 rfl) rfl ?_
      exact K62 _ (by rw [if_pos q14])
    · skip
      refine g_iload_n (pc := 65) (dd d_Mod_put 35 rfl) rfl ?_
      refine g_iconst (pc := 66) (v := 1) (dd d_Mod_put 36 rfl) (by decide) ?_
      refine g_iadd (pc := 67) (dd d_Mod_put 37 rfl) ?_
      refine g_goto (pc := 68) (tgt := 72) (dd d_Mod_put 38 rfl) (by decide) ?_
      exact K62 _ (by rw [if_neg q14])
  intro z hz
  subst hz
  refine g_istore_n (pc := 72) (dd d_Mod_put 40 rfl) (by decide) ?_
  refine g_iincW (pc := 73) (w := 1) (dd d_Mod_put 41 rfl) rfl (by decide) (by decide) ?_
  refine g_goto (pc := 76) (tgt := 7) (dd d_Mod_put 42 rfl) (by decide) ?_
  refine g_drop [5] ?_
  exact hH7 _ _ _ _ _ h
def b_Mod_put_54 (n : Nat) (H7 : Int32 → Int32 → Int32 → Int32 → IM → Option (Int32 × IM)) (x1 : Int32) (x2 : Int32) (x4 : Int32) (x5 : Int32) (I : IM) : Option (Int32 × IM) := b_Mod_put_59 n H7 x1 x2 x4 x5 1 I
set_option maxRecDepth 20000 in
set_option maxHeartbeats 4000000 in
theorem gb_Mod_put_54 {Δ : Dx} {X : Lx} (hX : MX Δ X)   {n : Nat} {Γ : Cx} (hk : Γ.k = 1) {r : Int32 × IM} (hT : Tg Δ Γ (some (.int r.1)) NN (r.2, X) 0 0) {H7 : Int32 → Int32 → Int32 → Int32 → IM → Option (Int32 × IM)} (hH7 : ∀ (x1 : Int32) (x2 : Int32) (x3 : Int32) (x4 : Int32) (I : IM), H7 x1 x2 x3 x4 I = some r → GG Δ m_Mod_put Γ NN 0 0 (I, X) 7 [some (.ref (Δ.ba + MO)), some (.int (x1)), some (.int (x2)), some (.int (x3)), some (.int (x4)), none] []) {x1 : Int32} {x2 : Int32} {x4 : Int32} {x5 : Int32} {I : IM} (h : b_Mod_put_54 n H7 x1 x2 x4 x5 I = some r) : GG Δ m_Mod_put Γ NN 0 0 (I, X) 54 [some (.ref (Δ.ba + MO)), some (.int (x1)), some (.int (x2)), none, some (.int (x4)), some (.int (x5))] [] := by
  unfold b_Mod_put_54 at h
  refine g_iconst (pc := 54) (v := 1) (dd d_Mod_put 29 rfl) (by decide) ?_
  refine g_goto (pc := 55) (tgt := 59) (dd d_Mod_put 30 rfl) (by decide) ?_
  exact gb_Mod_put_59 hX hk hT hH7 h
def b_Mod_put_58 (n : Nat) (H7 : Int32 → Int32 → Int32 → Int32 → IM → Option (Int32 × IM)) (x1 : Int32) (x2 : Int32) (x4 : Int32) (x5 : Int32) (I : IM) : Option (Int32 × IM) := b_Mod_put_59 n H7 x1 x2 x4 x5 0 I
set_option maxRecDepth 20000 in
set_option maxHeartbeats 4000000 in
theorem gb_Mod_put_58 {Δ : Dx} {X : Lx} (hX : MX Δ X)   {n : Nat} {Γ : Cx} (hk : Γ.k = 1) {r : Int32 × IM} (hT : Tg Δ Γ (some (.int r.1)) NN (r.2, X) 0 0) {H7 : Int32 → Int32 → Int32 → Int32 → IM → Option (Int32 × IM)} (hH7 : ∀ (x1 : Int32) (x2 : Int32) (x3 : Int32) (x4 : Int32) (I : IM), H7 x1 x2 x3 x4 I = some r → GG Δ m_Mod_put Γ NN 0 0 (I, X) 7 [some (.ref (Δ.ba + MO)), some (.int (x1)), some (.int (x2)), some (.int (x3)), some (.int (x4)), none] []) {x1 : Int32} {x2 : Int32} {x4 : Int32} {x5 : Int32} {I : IM} (h : b_Mod_put_58 n H7 x1 x2 x4 x5 I = some r) : GG Δ m_Mod_put Γ NN 0 0 (I, X) 58 [some (.ref (Δ.ba + MO)), some (.int (x1)), some (.int (x2)), none, some (.int (x4)), some (.int (x5))] [] := by
  unfold b_Mod_put_58 at h
  refine g_iconst (pc := 58) (v := 0) (dd d_Mod_put 31 rfl) (by decide) ?_
  exact gb_Mod_put_59 hX hk hT hH7 h
def b_Mod_put_162 (n : Nat) (H117 : Int32 → Int32 → IM → Option (Int32 × IM)) (x1 : Int32) (x4 : Int32) (I : IM) : Option (Int32 × IM) := H117 x1 (x4 + 1) I
set_option maxRecDepth 20000 in
set_option maxHeartbeats 4000000 in
theorem gb_Mod_put_162 {Δ : Dx} {X : Lx} (hX : MX Δ X)   {n : Nat} {Γ : Cx} (hk : Γ.k = 1) {r : Int32 × IM} (hT : Tg Δ Γ (some (.int r.1)) NN (r.2, X) 0 0) {H117 : Int32 → Int32 → IM → Option (Int32 × IM)} (hH117 : ∀ (x1 : Int32) (x4 : Int32) (I : IM), H117 x1 x4 I = some r → GG Δ m_Mod_put Γ NN 0 0 (I, X) 117 [some (.ref (Δ.ba + MO)), some (.int (x1)), none, none, some (.int (x4)), none] []) {x1 : Int32} {x4 : Int32} {I : IM} (h : b_Mod_put_162 n H117 x1 x4 I = some r) : GG Δ m_Mod_put Γ NN 0 0 (I, X) 162 [some (.ref (Δ.ba + MO)), some (.int (x1)), none, none, some (.int (x4)), none] [] := by
  unfold b_Mod_put_162 at h
  refine g_iincW (pc := 162) (w := 1) (dd d_Mod_put_1 29 rfl) rfl (by decide) (by decide) ?_
  refine g_goto (pc := 165) (tgt := 117) (dd d_Mod_put_1 30 rfl) (by decide) ?_
  exact hH117 _ _ _ h
def l_Mod_put_117 (n : Nat)  : Nat → Int32 → Int32 → IM → Option (Int32 × IM)
  | 0, _, _, _ => none
  | f + 1, x1, x4, I => if (4 : Int32) ≤ x4 then (some (I MO 2, I)) else (if (((x1 : Int32) >>> ((8 * x4 : Int32) &&& 31)) &&& 255 : Int32) ≤ 0 then (b_Mod_put_162 n (l_Mod_put_117 n  f) x1 x4 I) else (chk (inb (I MO 2) 900) <| lt (up I A_signs (I MO 2 : Int32).toNatClampNeg (((x1 : Int32) >>> ((8 * x4 : Int32) &&& 31)) &&& 255)) fun I18 => lt (up I18 MO 2 ((I18 MO 2) + 1)) fun I19 => b_Mod_put_162 n (l_Mod_put_117 n  f) x1 x4 I19))
set_option maxRecDepth 20000 in
set_option maxHeartbeats 4000000 in
theorem gl_Mod_put_117 {Δ : Dx} {X : Lx} (hX : MX Δ X)   {n : Nat} {Γ : Cx} (hk : Γ.k = 1) {r : Int32 × IM} (hT : Tg Δ Γ (some (.int r.1)) NN (r.2, X) 0 0)  : ∀ (f : Nat) (x1 : Int32) (x4 : Int32) (I : IM), l_Mod_put_117 n  f x1 x4 I = some r → GG Δ m_Mod_put Γ NN 0 0 (I, X) 117 [some (.ref (Δ.ba + MO)), some (.int (x1)), none, none, some (.int (x4)), none] []
  | 0, _, _, _, h => by cases h
  | f + 1, x1, x4, I, h => by
    have ih := gl_Mod_put_117 (n := n) hX hk hT  f
    rw [l_Mod_put_117] at h
    refine g_iload (pc := 117) (dd d_Mod_put_1 4 rfl) rfl ?_
    refine g_iconst (pc := 119) (v := 4) (dd d_Mod_put_1 5 rfl) (by decide) ?_
    refine g_icmpge (pc := 120) (tgt := 168) (dd d_Mod_put_1 6 rfl) (by decide) (fun q15 => ?_) (fun q15 => ?_)
    · replace h := ite_t h q15
      refine g_aload_n (pc := 168) (dd d_Mod_put_1 31 rfl) rfl ?_
      refine g_geti (pc := 169) (dd d_Mod_put_1 32 rfl) f_Mod_247 ob_MO rfl ?_
      cases h
      exact g_iret (pc := 172) rfl (dd d_Mod_put_1 33 rfl) hT
    · replace h := ite_f h q15
      refine g_iload_n (pc := 123) (dd d_Mod_put_1 7 rfl) rfl ?_
      refine g_bipush (pc := 124) (v := 8) (dd d_Mod_put_1 8 rfl) (by decide) ?_
      refine g_iload (pc := 126) (dd d_Mod_put_1 9 rfl) rfl ?_
      refine g_imul (pc := 128) (dd d_Mod_put_1 10 rfl) ?_
      refine g_ishr (pc := 129) (dd d_Mod_put_1 11 rfl) ?_
      refine g_sipush (pc := 130) (v := 255) (dd d_Mod_put_1 12 rfl) (by decide) ?_
      refine g_iand (pc := 133) (dd d_Mod_put_1 13 rfl) ?_
      refine g_istore (pc := 134) (dd d_Mod_put_1 14 rfl) (by decide) ?_
      refine g_iload (pc := 136) (dd d_Mod_put_1 15 rfl) rfl ?_
      refine g_ifle (pc := 138) (tgt := 162) (dd d_Mod_put_1 16 rfl) (by decide) (fun q16 => ?_) (fun q16 => ?_)
      · replace h := ite_t h q16
        refine g_drop [5] ?_
        exact gb_Mod_put_162 hX hk hT ih h
      · replace h := ite_f h q16
        refine g_aload_n (pc := 141) (dd d_Mod_put_1 17 rfl) rfl ?_
        refine g_getr (pc := 142) (dd d_Mod_put_1 18 rfl) f_Mod_7 ob_MO rfl (mr_signs hX) ?_
        refine g_aload_n (pc := 145) (dd d_Mod_put_1 19 rfl) rfl ?_
        refine g_geti (pc := 146) (dd d_Mod_put_1 20 rfl) f_Mod_247 ob_MO rfl ?_
        refine g_iload (pc := 149) (dd d_Mod_put_1 21 rfl) rfl ?_
        obtain ⟨c17, h⟩ := chk_e h
        refine g_iastN (pc := 151) (dd d_Mod_put_1 22 rfl) ar_A_signs c17 (fun I18 hI18 => ?_)
        replace h := lt_e h hI18
        refine g_aload_n (pc := 152) (dd d_Mod_put_1 23 rfl) rfl ?_
        refine g_dup (pc := 153) (dd d_Mod_put_1 24 rfl) rfl ?_
        refine g_geti (pc := 154) (dd d_Mod_put_1 25 rfl) f_Mod_247 ob_MO rfl ?_
        refine g_iconst (pc := 157) (v := 1) (dd d_Mod_put_1 26 rfl) (by decide) ?_
        refine g_iadd (pc := 158) (dd d_Mod_put_1 27 rfl) ?_
        refine g_putiN (pc := 159) (dd d_Mod_put_1 28 rfl) f_Mod_247 fm_Mod_2 ob_MO rfl (fun I19 hI19 => ?_)
        replace h := lt_e h hI19
        refine g_drop [5] ?_
        exact gb_Mod_put_162 hX hk hT ih h
def l_Mod_put_7 (n : Nat)  : Nat → Int32 → Int32 → Int32 → Int32 → IM → Option (Int32 × IM)
  | 0, _, _, _, _, _ => none
  | f + 1, x1, x2, x3, x4, I => if (4 : Int32) ≤ x4 then (Option.bind (f_Mod_refuse  (if x3 = 0 then 1 else 0) (if ((I MO 2) + x2 : Int32) ≤ (900 : Int32) then 0 else 1) I) fun v4 => if (v4.1 : Int32) = 0 then (l_Mod_put_117 n  n x1 0 v4.2) else (some (0, v4.2))) else (if x3 = 0 then (b_Mod_put_58 n (l_Mod_put_7 n  f) x1 x2 x4 (((x1 : Int32) >>> ((8 * x4 : Int32) &&& 31)) &&& 255) I) else (if (((x1 : Int32) >>> ((8 * x4 : Int32) &&& 31)) &&& 255 : Int32) = 0 then (b_Mod_put_54 n (l_Mod_put_7 n  f) x1 x2 x4 (((x1 : Int32) >>> ((8 * x4 : Int32) &&& 31)) &&& 255) I) else (if (((x1 : Int32) >>> ((8 * x4 : Int32) &&& 31)) &&& 255 : Int32) = (10 : Int32) then (b_Mod_put_54 n (l_Mod_put_7 n  f) x1 x2 x4 (((x1 : Int32) >>> ((8 * x4 : Int32) &&& 31)) &&& 255) I) else (Option.bind (f_Mod_in  (((x1 : Int32) >>> ((8 * x4 : Int32) &&& 31)) &&& 255) 32 126 I) fun v10 => (l_Mod_put_7 n  f) x1 (if (((x1 : Int32) >>> ((8 * x4 : Int32) &&& 31)) &&& 255 : Int32) ≤ 0 then x2 else ((x2) + (1))) (if v10 = 0 then 0 else 1) (x4 + 1) I))))
set_option maxRecDepth 20000 in
set_option maxHeartbeats 4000000 in
theorem gl_Mod_put_7 {Δ : Dx} {X : Lx} (hX : MX Δ X)   {n : Nat} {Γ : Cx} (hk : Γ.k = 1) {r : Int32 × IM} (hT : Tg Δ Γ (some (.int r.1)) NN (r.2, X) 0 0)  : ∀ (f : Nat) (x1 : Int32) (x2 : Int32) (x3 : Int32) (x4 : Int32) (I : IM), l_Mod_put_7 n  f x1 x2 x3 x4 I = some r → GG Δ m_Mod_put Γ NN 0 0 (I, X) 7 [some (.ref (Δ.ba + MO)), some (.int (x1)), some (.int (x2)), some (.int (x3)), some (.int (x4)), none] []
  | 0, _, _, _, _, _, h => by cases h
  | f + 1, x1, x2, x3, x4, I, h => by
    have ih := gl_Mod_put_7 (n := n) hX hk hT  f
    rw [l_Mod_put_7] at h
    refine g_iload (pc := 7) (dd d_Mod_put 6 rfl) rfl ?_
    refine g_iconst (pc := 9) (v := 4) (dd d_Mod_put 7 rfl) (by decide) ?_
    refine g_icmpge (pc := 10) (tgt := 79) (dd d_Mod_put 8 rfl) (by decide) (fun q1 => ?_) (fun q1 => ?_)
    · replace h := ite_t h q1
      refine g_aload_n (pc := 79) (dd d_Mod_put 43 rfl) rfl ?_
      refine g_iload_n (pc := 80) (dd d_Mod_put 44 rfl) rfl ?_
      suffices K81 : ∀ z : Int32, z = (if x3 = 0 then 1 else 0 : Int32) → GG Δ m_Mod_put Γ NN 0 0 (I, X) 89 [some (.ref (Δ.ba + MO)), some (.int (x1)), some (.int (x2)), some (.int (x3)), some (.int (x4)), none] [.int (z), .ref (Δ.ba + MO)] by
        refine g_ifne (pc := 81) (tgt := 88) (dd d_Mod_put 45 rfl) (by decide) (fun q2 => ?_) (fun q2 => ?_)
        · skip
          refine g_iconst (pc := 88) (v := 0) (dd d_Mod_put 48 rfl) (by decide) ?_
          exact K81 _ (by rw [if_neg q2])
        · skip
          refine g_iconst (pc := 84) (v := 1) (dd d_Mod_put 46 rfl) (by decide) ?_
          refine g_goto (pc := 85) (tgt := 89) (dd d_Mod_put 47 rfl) (by decide) ?_
          exact K81 _ (by rw [if_pos q2])
      intro z hz
      subst hz
      refine g_aload_n (pc := 89) (dd d_Mod_put 49 rfl) rfl ?_
      refine g_geti (pc := 90) (dd d_Mod_put 50 rfl) f_Mod_247 ob_MO rfl ?_
      refine g_iload_n (pc := 93) (dd d_Mod_put 51 rfl) rfl ?_
      refine g_iadd (pc := 94) (dd d_Mod_put 52 rfl) ?_
      refine g_sipush (pc := 95) (v := 900) (dd d_Mod_put 53 rfl) (by decide) ?_
      suffices K98 : ∀ z : Int32, z = (if ((I MO 2) + x2 : Int32) ≤ (900 : Int32) then 0 else 1 : Int32) → GG Δ m_Mod_put Γ NN 0 0 (I, X) 106 [some (.ref (Δ.ba + MO)), some (.int (x1)), some (.int (x2)), some (.int (x3)), some (.int (x4)), none] [.int (z), .int (if x3 = 0 then 1 else 0), .ref (Δ.ba + MO)] by
        refine g_icmple (pc := 98) (tgt := 105) (dd d_Mod_put 54 rfl) (by decide) (fun q3 => ?_) (fun q3 => ?_)
        · skip
          refine g_iconst (pc := 105) (v := 0) (dd d_Mod_put 57 rfl) (by decide) ?_
          exact K98 _ (by rw [if_pos q3])
        · skip
          refine g_iconst (pc := 101) (v := 1) (dd d_Mod_put 55 rfl) (by decide) ?_
          refine g_goto (pc := 102) (tgt := 106) (dd d_Mod_put 56 rfl) (by decide) ?_
          exact K98 _ (by rw [if_neg q3])
      intro z hz
      subst hz
      obtain ⟨v4, e5, h⟩ := bnd_e h
      refine g_callV (pc := 106) (dd d_Mod_put 58 rfl) v_Mod_250 ob_MO rfl (ef_Mod_refuse hX e5) rfl (by rw [hk]; decide) (Nat.le_of_ble_eq_true rfl) ⟨Nat.zero_le _, Nat.zero_le _⟩ rfl ?_
      refine g_ifeq (pc := 109) (tgt := 114) (dd d_Mod_put 59 rfl) (by decide) (fun q6 => ?_) (fun q6 => ?_)
      · replace h := ite_t h q6
        refine g_iconst (pc := 114) (v := 0) (dd d_Mod_put_1 2 rfl) (by decide) ?_
        refine g_istore (pc := 115) (dd d_Mod_put_1 3 rfl) (by decide) ?_
        refine g_drop [2, 3] ?_
        exact gl_Mod_put_117 hX hk hT  _ _ _ _ h
      · replace h := ite_f h q6
        refine g_iconst (pc := 112) (v := 0) (dd d_Mod_put_1 0 rfl) (by decide) ?_
        cases h
        exact g_iret (pc := 113) rfl (dd d_Mod_put_1 1 rfl) hT
    · replace h := ite_f h q1
      refine g_iload_n (pc := 13) (dd d_Mod_put 9 rfl) rfl ?_
      refine g_bipush (pc := 14) (v := 8) (dd d_Mod_put 10 rfl) (by decide) ?_
      refine g_iload (pc := 16) (dd d_Mod_put 11 rfl) rfl ?_
      refine g_imul (pc := 18) (dd d_Mod_put 12 rfl) ?_
      refine g_ishr (pc := 19) (dd d_Mod_put 13 rfl) ?_
      refine g_sipush (pc := 20) (v := 255) (dd d_Mod_put 14 rfl) (by decide) ?_
      refine g_iand (pc := 23) (dd d_Mod_put 15 rfl) ?_
      refine g_istore (pc := 24) (dd d_Mod_put 16 rfl) (by decide) ?_
      refine g_iload_n (pc := 26) (dd d_Mod_put 17 rfl) rfl ?_
      refine g_ifeq (pc := 27) (tgt := 58) (dd d_Mod_put 18 rfl) (by decide) (fun q7 => ?_) (fun q7 => ?_)
      · replace h := ite_t h q7
        refine g_drop [3] ?_
        exact gb_Mod_put_58 hX hk hT ih h
      · replace h := ite_f h q7
        refine g_iload (pc := 30) (dd d_Mod_put 19 rfl) rfl ?_
        refine g_ifeq (pc := 32) (tgt := 54) (dd d_Mod_put 20 rfl) (by decide) (fun q8 => ?_) (fun q8 => ?_)
        · replace h := ite_t h q8
          refine g_drop [3] ?_
          exact gb_Mod_put_54 hX hk hT ih h
        · replace h := ite_f h q8
          refine g_iload (pc := 35) (dd d_Mod_put 21 rfl) rfl ?_
          refine g_bipush (pc := 37) (v := 10) (dd d_Mod_put 22 rfl) (by decide) ?_
          refine g_icmpeq (pc := 39) (tgt := 54) (dd d_Mod_put 23 rfl) (by decide) (fun q9 => ?_) (fun q9 => ?_)
          · replace h := ite_t h q9
            refine g_drop [3] ?_
            exact gb_Mod_put_54 hX hk hT ih h
          · replace h := ite_f h q9
            refine g_iload (pc := 42) (dd d_Mod_put 24 rfl) rfl ?_
            refine g_bipush (pc := 44) (v := 32) (dd d_Mod_put 25 rfl) (by decide) ?_
            refine g_bipush (pc := 46) (v := 126) (dd d_Mod_put 26 rfl) (by decide) ?_
            obtain ⟨v10, e11, h⟩ := bnd_e h
            refine g_callS (pc := 48) (dd d_Mod_put 27 rfl) s_Mod_243 (ef_Mod_in hX e11) rfl (by rw [hk]; decide) (Nat.le_of_ble_eq_true rfl) ⟨Nat.zero_le _, Nat.zero_le _⟩ rfl ?_
            suffices K51 : ∀ z : Int32, z = (if v10 = 0 then 0 else 1 : Int32) → GG Δ m_Mod_put Γ NN 0 0 (I, X) 59 [some (.ref (Δ.ba + MO)), some (.int (x1)), some (.int (x2)), some (.int (x3)), some (.int (x4)), some (.int (((x1 : Int32) >>> ((8 * x4 : Int32) &&& 31)) &&& 255))] [.int (z)] by
              refine g_ifeq (pc := 51) (tgt := 58) (dd d_Mod_put 28 rfl) (by decide) (fun q12 => ?_) (fun q12 => ?_)
              · skip
                refine g_iconst (pc := 58) (v := 0) (dd d_Mod_put 31 rfl) (by decide) ?_
                exact K51 _ (by rw [if_pos q12])
              · skip
                refine g_iconst (pc := 54) (v := 1) (dd d_Mod_put 29 rfl) (by decide) ?_
                refine g_goto (pc := 55) (tgt := 59) (dd d_Mod_put 30 rfl) (by decide) ?_
                exact K51 _ (by rw [if_neg q12])
            intro z hz
            subst hz
            refine g_istore_n (pc := 59) (dd d_Mod_put 32 rfl) (by decide) ?_
            refine g_iload (pc := 60) (dd d_Mod_put 33 rfl) rfl ?_
            suffices K62 : ∀ z : Int32, z = (if (((x1 : Int32) >>> ((8 * x4 : Int32) &&& 31)) &&& 255 : Int32) ≤ 0 then x2 else ((x2) + (1)) : Int32) → GG Δ m_Mod_put Γ NN 0 0 (I, X) 72 [some (.ref (Δ.ba + MO)), some (.int (x1)), some (.int (x2)), some (.int (if v10 = 0 then 0 else 1)), some (.int (x4)), some (.int (((x1 : Int32) >>> ((8 * x4 : Int32) &&& 31)) &&& 255))] [.int (z)] by
              refine g_ifle (pc := 62) (tgt := 71) (dd d_Mod_put 34 rfl) (by decide) (fun q13 => ?_) (fun q13 => ?_)
              · skip
                refine g_iload_n (pc := 71) (dd d_Mod_put 39 rfl) rfl ?_
                exact K62 _ (by rw [if_pos q13])
              · skip
                refine g_iload_n (pc := 65) (dd d_Mod_put 35 rfl) rfl ?_
                refine g_iconst (pc := 66) (v := 1) (dd d_Mod_put 36 rfl) (by decide) ?_
                refine g_iadd (pc := 67) (dd d_Mod_put 37 rfl) ?_
                refine g_goto (pc := 68) (tgt := 72) (dd d_Mod_put 38 rfl) (by decide) ?_
                exact K62 _ (by rw [if_neg q13])
            intro z hz
            subst hz
            refine g_istore_n (pc := 72) (dd d_Mod_put 40 rfl) (by decide) ?_
            refine g_iincW (pc := 73) (w := 1) (dd d_Mod_put 41 rfl) rfl (by decide) (by decide) ?_
            refine g_goto (pc := 76) (tgt := 7) (dd d_Mod_put 42 rfl) (by decide) ?_
            refine g_drop [5] ?_
            exact ih _ _ _ _ _ h
def f_Mod_put (n : Nat) (x1 : Int32) (I : IM) : Option (Int32 × IM) := l_Mod_put_7 n  n x1 0 1 0 I
set_option maxRecDepth 20000 in
set_option maxHeartbeats 4000000 in
theorem ef_Mod_put {Δ : Dx} {X : Lx} (hX : MX Δ X) {n : Nat} {x1 : Int32}  {I : IM}  {r : Int32 × IM} (h : f_Mod_put n x1 I = some r) : Ev Δ 1 m_Mod_put [.ref (Δ.ba + MO), .int x1] (I, X) (some (.int r.1)) (r.2, X) := by
  refine ev_of (by decide) (Nat.le_of_ble_eq_true rfl) (fun Γ hk hR hT => ?_)
  change GG Δ m_Mod_put Γ NN 0 0 (I, X) 0 [some (.ref (Δ.ba + MO)), some (.int (x1)), none, none, none, none] []
  unfold f_Mod_put at h
  refine g_iconst (pc := 0) (v := 0) (dd d_Mod_put 0 rfl) (by decide) ?_
  refine g_istore_n (pc := 1) (dd d_Mod_put 1 rfl) (by decide) ?_
  refine g_iconst (pc := 2) (v := 1) (dd d_Mod_put 2 rfl) (by decide) ?_
  refine g_istore_n (pc := 3) (dd d_Mod_put 3 rfl) (by decide) ?_
  refine g_iconst (pc := 4) (v := 0) (dd d_Mod_put 4 rfl) (by decide) ?_
  refine g_istore (pc := 5) (dd d_Mod_put 5 rfl) (by decide) ?_
  exact gl_Mod_put_7 hX hk hT  _ _ _ _ _ _ h
def b_Mod_end_30    (I : IM) : Option (IM) := some I
set_option maxRecDepth 20000 in
set_option maxHeartbeats 4000000 in
theorem gb_Mod_end_30 {Δ : Dx} {X : Lx} (hX : MX Δ X)    {Γ : Cx} (hk : Γ.k = 1) {r : IM} (hT : Tg Δ Γ none NN (r, X) 0 0)   {I : IM} (h : b_Mod_end_30    I = some r) : GG Δ m_Mod_end Γ NN 0 0 (I, X) 30 [none, none] [] := by
  unfold b_Mod_end_30 at h
  cases h
  exact g_vret (pc := 30) rfl (dd d_Mod_end 16 rfl) hT
def f_Mod_end (x1 : Int32) (I : IM) : Option (IM) := Option.bind (f_Mod_in  x1 0 (I MO 2) I) fun v1 => Option.bind (f_Mod_refuse  (if v1 = 0 then 1 else 0) 0 I) fun v4 => if (v4.1 : Int32) = 0 then (lt (up v4.2 MO 2 (x1)) fun I7 => b_Mod_end_30   I7) else (b_Mod_end_30   v4.2)
set_option maxRecDepth 20000 in
set_option maxHeartbeats 4000000 in
theorem ef_Mod_end {Δ : Dx} {X : Lx} (hX : MX Δ X) {x1 : Int32}  {I : IM}  {r : IM} (h : f_Mod_end x1 I = some r) : Ev Δ 1 m_Mod_end [.ref (Δ.ba + MO), .int x1] (I, X) none (r, X) := by
  refine ev_of (by decide) (Nat.le_of_ble_eq_true rfl) (fun Γ hk hR hT => ?_)
  change GG Δ m_Mod_end Γ NN 0 0 (I, X) 0 [some (.ref (Δ.ba + MO)), some (.int (x1))] []
  unfold f_Mod_end at h
  refine g_aload_n (pc := 0) (dd d_Mod_end 0 rfl) rfl ?_
  refine g_iload_n (pc := 1) (dd d_Mod_end 1 rfl) rfl ?_
  refine g_iconst (pc := 2) (v := 0) (dd d_Mod_end 2 rfl) (by decide) ?_
  refine g_aload_n (pc := 3) (dd d_Mod_end 3 rfl) rfl ?_
  refine g_geti (pc := 4) (dd d_Mod_end 4 rfl) f_Mod_247 ob_MO rfl ?_
  obtain ⟨v1, e2, h⟩ := bnd_e h
  refine g_callS (pc := 7) (dd d_Mod_end 5 rfl) s_Mod_243 (ef_Mod_in hX e2) rfl (by rw [hk]; decide) (Nat.le_of_ble_eq_true rfl) ⟨Nat.zero_le _, Nat.zero_le _⟩ rfl ?_
  suffices K10 : ∀ z : Int32, z = (if v1 = 0 then 1 else 0 : Int32) → GG Δ m_Mod_end Γ NN 0 0 (I, X) 18 [some (.ref (Δ.ba + MO)), some (.int (x1))] [.int (z), .ref (Δ.ba + MO)] by
    refine g_ifne (pc := 10) (tgt := 17) (dd d_Mod_end 6 rfl) (by decide) (fun q3 => ?_) (fun q3 => ?_)
    · skip
      refine g_iconst (pc := 17) (v := 0) (dd d_Mod_end 9 rfl) (by decide) ?_
      exact K10 _ (by rw [if_neg q3])
    · skip
      refine g_iconst (pc := 13) (v := 1) (dd d_Mod_end 7 rfl) (by decide) ?_
      refine g_goto (pc := 14) (tgt := 18) (dd d_Mod_end 8 rfl) (by decide) ?_
      exact K10 _ (by rw [if_pos q3])
  intro z hz
  subst hz
  refine g_iconst (pc := 18) (v := 0) (dd d_Mod_end 10 rfl) (by decide) ?_
  obtain ⟨v4, e5, h⟩ := bnd_e h
  refine g_callV (pc := 19) (dd d_Mod_end 11 rfl) v_Mod_250 ob_MO rfl (ef_Mod_refuse hX e5) rfl (by rw [hk]; decide) (Nat.le_of_ble_eq_true rfl) ⟨Nat.zero_le _, Nat.zero_le _⟩ rfl ?_
  refine g_ifne (pc := 22) (tgt := 30) (dd d_Mod_end 12 rfl) (by decide) (fun q6 => ?_) (fun q6 => ?_)
  · replace h := ite_f h q6
    refine g_drop [0, 1] ?_
    exact gb_Mod_end_30 hX hk hT  h
  · replace h := ite_t h q6
    refine g_aload_n (pc := 25) (dd d_Mod_end 13 rfl) rfl ?_
    refine g_iload_n (pc := 26) (dd d_Mod_end 14 rfl) rfl ?_
    refine g_putiN (pc := 27) (dd d_Mod_end 15 rfl) f_Mod_247 fm_Mod_2 ob_MO rfl (fun I7 hI7 => ?_)
    replace h := lt_e h hI7
    refine g_drop [0, 1] ?_
    exact gb_Mod_end_30 hX hk hT  h
def b_Mod_sign_18 (I : IM)  (y0 : Int32) : Option (Int32) := some (y0)
set_option maxRecDepth 20000 in
set_option maxHeartbeats 4000000 in
theorem gb_Mod_sign_18 {Δ : Dx} {X : Lx} (hX : MX Δ X)   {I : IM} {Γ : Cx} (hk : Γ.k = 0) {r : Int32} (hT : Tg Δ Γ (some (.int r)) NN (I, X) 0 0)  {y0 : Int32} (h : b_Mod_sign_18 I  y0 = some r) : GG Δ m_Mod_sign Γ NN 0 0 (I, X) 18 [none, none] [.int (y0)] := by
  unfold b_Mod_sign_18 at h
  cases h
  exact g_iret (pc := 18) rfl (dd d_Mod_sign 10 rfl) hT
def f_Mod_sign (x1 : Int32) (I : IM) : Option (Int32) := if (I MO 2 : Int32) ≤ x1 then (b_Mod_sign_18 I  0) else (chk (inb x1 900) <| b_Mod_sign_18 I  (I A_signs x1.toNatClampNeg))
set_option maxRecDepth 20000 in
set_option maxHeartbeats 4000000 in
theorem ef_Mod_sign {Δ : Dx} {X : Lx} (hX : MX Δ X) {x1 : Int32}  {I : IM}  {r : Int32} (h : f_Mod_sign x1 I = some r) : Ev Δ 0 m_Mod_sign [.ref (Δ.ba + MO), .int x1] (I, X) (some (.int r)) (I, X) := by
  refine ev_of (by decide) (Nat.le_of_ble_eq_true rfl) (fun Γ hk hR hT => ?_)
  change GG Δ m_Mod_sign Γ NN 0 0 (I, X) 0 [some (.ref (Δ.ba + MO)), some (.int (x1))] []
  unfold f_Mod_sign at h
  refine g_iload_n (pc := 0) (dd d_Mod_sign 0 rfl) rfl ?_
  refine g_aload_n (pc := 1) (dd d_Mod_sign 1 rfl) rfl ?_
  refine g_geti (pc := 2) (dd d_Mod_sign 2 rfl) f_Mod_247 ob_MO rfl ?_
  refine g_icmpge (pc := 5) (tgt := 17) (dd d_Mod_sign 3 rfl) (by decide) (fun q1 => ?_) (fun q1 => ?_)
  · replace h := ite_t h q1
    refine g_iconst (pc := 17) (v := 0) (dd d_Mod_sign 9 rfl) (by decide) ?_
    refine g_drop [0, 1] ?_
    exact gb_Mod_sign_18 hX hk hT  h
  · replace h := ite_f h q1
    refine g_aload_n (pc := 8) (dd d_Mod_sign 4 rfl) rfl ?_
    refine g_getr (pc := 9) (dd d_Mod_sign 5 rfl) f_Mod_7 ob_MO rfl (mr_signs hX) ?_
    refine g_iload_n (pc := 12) (dd d_Mod_sign 6 rfl) rfl ?_
    obtain ⟨c2, h⟩ := chk_e h
    refine g_iald (pc := 13) (dd d_Mod_sign 7 rfl) ar_A_signs c2 ?_
    refine g_goto (pc := 14) (tgt := 18) (dd d_Mod_sign 8 rfl) (by decide) ?_
    refine g_drop [0, 1] ?_
    exact gb_Mod_sign_18 hX hk hT  h
def b_Mod_wordAt_101 (n : Nat) (J : JM) (I : IM) (H7 : Int32 → Int32 → Int32 → Int32 → Option (Int32)) (x1 : Int32) (x2 : Int32) (x4 : Int32) (y0 : Int32) : Option (Int32) := H7 x1 x2 y0 (x4 + 1)
set_option maxRecDepth 20000 in
set_option maxHeartbeats 4000000 in
theorem gb_Mod_wordAt_101 {Δ : Dx} {X : Lx} (hX : MX Δ X)   {n : Nat} {I : IM} {Γ : Cx} (hk : Γ.k = 1) {r : Int32} (hT : Tg Δ Γ (some (.int r)) NN (I, X) 0 0) {H7 : Int32 → Int32 → Int32 → Int32 → Option (Int32)} (hH7 : ∀ (x1 : Int32) (x2 : Int32) (x3 : Int32) (x4 : Int32), H7 x1 x2 x3 x4 = some r → GG Δ m_Mod_wordAt Γ NN 0 0 (I, X) 7 [some (.ref (Δ.ba + MO)), some (.int (x1)), some (.int (x2)), some (.int (x3)), some (.int (x4)), none, none, none] []) {x1 : Int32} {x2 : Int32} {x4 : Int32} {y0 : Int32} (h : b_Mod_wordAt_101 n X.1 I H7 x1 x2 x4 y0 = some r) : GG Δ m_Mod_wordAt Γ NN 0 0 (I, X) 101 [some (.ref (Δ.ba + MO)), some (.int (x1)), some (.int (x2)), none, some (.int (x4)), none, none, none] [.int (y0)] := by
  unfold b_Mod_wordAt_101 at h
  refine g_istore_n (pc := 101) (dd d_Mod_wordAt 54 rfl) (by decide) ?_
  refine g_iincW (pc := 102) (w := 1) (dd d_Mod_wordAt 55 rfl) rfl (by decide) (by decide) ?_
  refine g_goto (pc := 105) (tgt := 7) (dd d_Mod_wordAt 56 rfl) (by decide) ?_
  exact hH7 _ _ _ _ h
def b_Mod_wordAt_100 (n : Nat) (J : JM) (I : IM) (H7 : Int32 → Int32 → Int32 → Int32 → Option (Int32)) (x1 : Int32) (x2 : Int32) (x3 : Int32) (x4 : Int32) : Option (Int32) := b_Mod_wordAt_101 n J I H7 x1 x2 x4 x3
set_option maxRecDepth 20000 in
set_option maxHeartbeats 4000000 in
theorem gb_Mod_wordAt_100 {Δ : Dx} {X : Lx} (hX : MX Δ X)   {n : Nat} {I : IM} {Γ : Cx} (hk : Γ.k = 1) {r : Int32} (hT : Tg Δ Γ (some (.int r)) NN (I, X) 0 0) {H7 : Int32 → Int32 → Int32 → Int32 → Option (Int32)} (hH7 : ∀ (x1 : Int32) (x2 : Int32) (x3 : Int32) (x4 : Int32), H7 x1 x2 x3 x4 = some r → GG Δ m_Mod_wordAt Γ NN 0 0 (I, X) 7 [some (.ref (Δ.ba + MO)), some (.int (x1)), some (.int (x2)), some (.int (x3)), some (.int (x4)), none, none, none] []) {x1 : Int32} {x2 : Int32} {x3 : Int32} {x4 : Int32} (h : b_Mod_wordAt_100 n X.1 I H7 x1 x2 x3 x4 = some r) : GG Δ m_Mod_wordAt Γ NN 0 0 (I, X) 100 [some (.ref (Δ.ba + MO)), some (.int (x1)), some (.int (x2)), some (.int (x3)), some (.int (x4)), none, none, none] [] := by
  unfold b_Mod_wordAt_100 at h
  refine g_iload_n (pc := 100) (dd d_Mod_wordAt 53 rfl) rfl ?_
  refine g_drop [3] ?_
  exact gb_Mod_wordAt_101 hX hk hT hH7 h
def b_Mod_wordAt_70 (n : Nat) (J : JM) (I : IM) (H7 : Int32 → Int32 → Int32 → Int32 → Option (Int32)) (x1 : Int32) (x2 : Int32) (x3 : Int32) (x4 : Int32) (x5 : Int32) (x6 : Int64) : Option (Int32) := chk (inb x4 70) <| if (lg_cmp (J A_words x4.toNatClampNeg) (0) : Int32) ≤ 0 then (b_Mod_wordAt_100 n J I H7 x1 x2 x3 x4) else (if x5 = x2 then (H7 x1 x2 (if (lg_cmp (x6) (0) : Int32) = 0 then x4 else x3) (x4 + 1)) else (b_Mod_wordAt_100 n J I H7 x1 x2 x3 x4))
set_option maxRecDepth 20000 in
set_option maxHeartbeats 4000000 in
theorem gb_Mod_wordAt_70 {Δ : Dx} {X : Lx} (hX : MX Δ X)   {n : Nat} {I : IM} {Γ : Cx} (hk : Γ.k = 1) {r : Int32} (hT : Tg Δ Γ (some (.int r)) NN (I, X) 0 0) {H7 : Int32 → Int32 → Int32 → Int32 → Option (Int32)} (hH7 : ∀ (x1 : Int32) (x2 : Int32) (x3 : Int32) (x4 : Int32), H7 x1 x2 x3 x4 = some r → GG Δ m_Mod_wordAt Γ NN 0 0 (I, X) 7 [some (.ref (Δ.ba + MO)), some (.int (x1)), some (.int (x2)), some (.int (x3)), some (.int (x4)), none, none, none] []) {x1 : Int32} {x2 : Int32} {x3 : Int32} {x4 : Int32} {x5 : Int32} {x6 : Int64} (h : b_Mod_wordAt_70 n X.1 I H7 x1 x2 x3 x4 x5 x6 = some r) : GG Δ m_Mod_wordAt Γ NN 0 0 (I, X) 70 [some (.ref (Δ.ba + MO)), some (.int (x1)), some (.int (x2)), some (.int (x3)), some (.int (x4)), some (.int (x5)), some (.long (x6)), none] [] := by
  unfold b_Mod_wordAt_70 at h
  refine g_aload_n (pc := 70) (dd d_Mod_wordAt 37 rfl) rfl ?_
  refine g_getr (pc := 71) (dd d_Mod_wordAt 38 rfl) f_Mod_13 ob_MO rfl (mr_words hX) ?_
  refine g_iload (pc := 74) (dd d_Mod_wordAt 39 rfl) rfl ?_
  obtain ⟨c8, h⟩ := chk_e h
  refine g_lald (pc := 76) (dd d_Mod_wordAt 40 rfl) ar_A_words c8 ?_
  refine g_lconst (pc := 77) (v := 0) (dd d_Mod_wordAt 41 rfl) (by decide) ?_
  refine g_lcmp (pc := 78) (dd d_Mod_wordAt 42 rfl) ?_
  refine g_ifle (pc := 79) (tgt := 100) (dd d_Mod_wordAt 43 rfl) (by decide) (fun q9 => ?_) (fun q9 => ?_)
  · replace h := ite_t h q9
    refine g_drop [5, 6] ?_
    exact gb_Mod_wordAt_100 hX hk hT hH7 h
  · replace h := ite_f h q9
    refine g_iload (pc := 82) (dd d_Mod_wordAt 44 rfl) rfl ?_
    refine g_iload_n (pc := 84) (dd d_Mod_wordAt 45 rfl) rfl ?_
    refine g_icmpne (pc := 85) (tgt := 100) (dd d_Mod_wordAt 46 rfl) (by decide) (fun q10 => ?_) (fun q10 => ?_)
    · replace h := ite_f h q10
      refine g_drop [5, 6] ?_
      exact gb_Mod_wordAt_100 hX hk hT hH7 h
    · replace h := ite_t h q10
      refine g_lload (pc := 88) (dd d_Mod_wordAt 47 rfl) rfl ?_
      refine g_lconst (pc := 90) (v := 0) (dd d_Mod_wordAt 48 rfl) (by decide) ?_
      refine g_lcmp (pc := 91) (dd d_Mod_wordAt 49 rfl) ?_
      suffices K92 : ∀ z : Int32, z = (if (lg_cmp (x6) (0) : Int32) = 0 then x4 else x3 : Int32) → GG Δ m_Mod_wordAt Γ NN 0 0 (I, X) 101 [some (.ref (Δ.ba + MO)), some (.int (x1)), some (.int (x2)), some (.int (x3)), some (.int (x4)), some (.int (x5)), some (.long (x6)), none] [.int (z)] by
        refine g_ifne (pc := 92) (tgt := 100) (dd d_Mod_wordAt 50 rfl) (by decide) (fun q11 => ?_) (fun q11 => ?_)
        · skip
          refine g_iload_n (pc := 100) (dd d_Mod_wordAt 53 rfl) rfl ?_
          exact K92 _ (by rw [if_neg q11])
        · skip
          refine g_iload (pc := 95) (dd d_Mod_wordAt 51 rfl) rfl ?_
          refine g_goto (pc := 97) (tgt := 101) (dd d_Mod_wordAt 52 rfl) (by decide) ?_
          exact K92 _ (by rw [if_pos q11])
      intro z hz
      subst hz
      refine g_istore_n (pc := 101) (dd d_Mod_wordAt 54 rfl) (by decide) ?_
      refine g_iincW (pc := 102) (w := 1) (dd d_Mod_wordAt 55 rfl) rfl (by decide) (by decide) ?_
      refine g_goto (pc := 105) (tgt := 7) (dd d_Mod_wordAt 56 rfl) (by decide) ?_
      refine g_drop [5, 6] ?_
      exact hH7 _ _ _ _ h
def l_Mod_wordAt_26 (n : Nat) (J : JM) (I : IM) (H7 : Int32 → Int32 → Int32 → Int32 → Option (Int32)) : Nat → Int32 → Int32 → Int32 → Int32 → Int32 → Int64 → Option (Int32)
  | 0, _, _, _, _, _, _ => none
  | f + 1, x1, x2, x3, x4, x5, x6 => if x2 ≤ x5 then (b_Mod_wordAt_70 n J I H7 x1 x2 x3 x4 x5 x6) else (if (lg_cmp (x6) (0) : Int32) ≤ 0 then (b_Mod_wordAt_70 n J I H7 x1 x2 x3 x4 x5 x6) else (Option.bind (f_Mod_sign  x5 I) fun v5 => if v5 = (96 + (((x6) &&& (31)).toInt32) : Int32) then ((l_Mod_wordAt_26 n J I H7 f) x1 x2 x3 x4 (x5 + 1) ((x6) >>> ((5).toInt64 &&& 63))) else (b_Mod_wordAt_70 n J I H7 x1 x2 x3 x4 x5 x6)))
set_option maxRecDepth 20000 in
set_option maxHeartbeats 4000000 in
theorem gl_Mod_wordAt_26 {Δ : Dx} {X : Lx} (hX : MX Δ X)   {n : Nat} {I : IM} {Γ : Cx} (hk : Γ.k = 1) {r : Int32} (hT : Tg Δ Γ (some (.int r)) NN (I, X) 0 0) {H7 : Int32 → Int32 → Int32 → Int32 → Option (Int32)} (hH7 : ∀ (x1 : Int32) (x2 : Int32) (x3 : Int32) (x4 : Int32), H7 x1 x2 x3 x4 = some r → GG Δ m_Mod_wordAt Γ NN 0 0 (I, X) 7 [some (.ref (Δ.ba + MO)), some (.int (x1)), some (.int (x2)), some (.int (x3)), some (.int (x4)), none, none, none] []) : ∀ (f : Nat) (x1 : Int32) (x2 : Int32) (x3 : Int32) (x4 : Int32) (x5 : Int32) (x6 : Int64), l_Mod_wordAt_26 n X.1 I H7 f x1 x2 x3 x4 x5 x6 = some r → GG Δ m_Mod_wordAt Γ NN 0 0 (I, X) 26 [some (.ref (Δ.ba + MO)), some (.int (x1)), some (.int (x2)), some (.int (x3)), some (.int (x4)), some (.int (x5)), some (.long (x6)), none] []
  | 0, _, _, _, _, _, _, h => by cases h
  | f + 1, x1, x2, x3, x4, x5, x6, h => by
    have ih := gl_Mod_wordAt_26 (n := n) hX hk hT hH7 f
    rw [l_Mod_wordAt_26] at h
    refine g_iload (pc := 26) (dd d_Mod_wordAt 14 rfl) rfl ?_
    refine g_iload_n (pc := 28) (dd d_Mod_wordAt 15 rfl) rfl ?_
    refine g_icmpge (pc := 29) (tgt := 70) (dd d_Mod_wordAt 16 rfl) (by decide) (fun q3 => ?_) (fun q3 => ?_)
    · replace h := ite_t h q3
      exact gb_Mod_wordAt_70 hX hk hT hH7 h
    · replace h := ite_f h q3
      refine g_lload (pc := 32) (dd d_Mod_wordAt 17 rfl) rfl ?_
      refine g_lconst (pc := 34) (v := 0) (dd d_Mod_wordAt 18 rfl) (by decide) ?_
      refine g_lcmp (pc := 35) (dd d_Mod_wordAt 19 rfl) ?_
      refine g_ifle (pc := 36) (tgt := 70) (dd d_Mod_wordAt 20 rfl) (by decide) (fun q4 => ?_) (fun q4 => ?_)
      · replace h := ite_t h q4
        exact gb_Mod_wordAt_70 hX hk hT hH7 h
      · replace h := ite_f h q4
        refine g_aload_n (pc := 39) (dd d_Mod_wordAt 21 rfl) rfl ?_
        refine g_iload (pc := 40) (dd d_Mod_wordAt 22 rfl) rfl ?_
        obtain ⟨v5, e6, h⟩ := bnd_e h
        refine g_callV (pc := 42) (dd d_Mod_wordAt 23 rfl) v_Mod_254 ob_MO rfl (ef_Mod_sign hX e6) rfl (by rw [hk]; decide) (Nat.le_of_ble_eq_true rfl) ⟨Nat.zero_le _, Nat.zero_le _⟩ rfl ?_
        refine g_bipush (pc := 45) (v := 96) (dd d_Mod_wordAt 24 rfl) (by decide) ?_
        refine g_lload (pc := 47) (dd d_Mod_wordAt 25 rfl) rfl ?_
        refine g_ldc2 (pc := 49) (dd d_Mod_wordAt 26 rfl) c_Mod_258 ?_
        refine g_land (pc := 52) (dd d_Mod_wordAt 27 rfl) ?_
        refine g_l2i (pc := 53) (dd d_Mod_wordAt 28 rfl) ?_
        refine g_iadd (pc := 54) (dd d_Mod_wordAt 29 rfl) ?_
        refine g_icmpne (pc := 55) (tgt := 70) (dd d_Mod_wordAt 30 rfl) (by decide) (fun q7 => ?_) (fun q7 => ?_)
        · replace h := ite_f h q7
          exact gb_Mod_wordAt_70 hX hk hT hH7 h
        · replace h := ite_t h q7
          refine g_iincW (pc := 58) (w := 1) (dd d_Mod_wordAt 31 rfl) rfl (by decide) (by decide) ?_
          refine g_lload (pc := 61) (dd d_Mod_wordAt 32 rfl) rfl ?_
          refine g_iconst (pc := 63) (v := 5) (dd d_Mod_wordAt 33 rfl) (by decide) ?_
          refine g_lshr (pc := 64) (dd d_Mod_wordAt 34 rfl) ?_
          refine g_lstore (pc := 65) (dd d_Mod_wordAt 35 rfl) (by decide) ?_
          refine g_goto (pc := 67) (tgt := 26) (dd d_Mod_wordAt 36 rfl) (by decide) ?_
          exact ih _ _ _ _ _ _ h
def l_Mod_wordAt_7 (n : Nat) (J : JM) (I : IM)  : Nat → Int32 → Int32 → Int32 → Int32 → Option (Int32)
  | 0, _, _, _, _ => none
  | f + 1, x1, x2, x3, x4 => if (70 : Int32) ≤ x4 then (some (x3)) else (chk (inb x4 70) <| l_Mod_wordAt_26 n J I (l_Mod_wordAt_7 n J I  f) n x1 x2 x3 x4 x1 (J A_words x4.toNatClampNeg))
set_option maxRecDepth 20000 in
set_option maxHeartbeats 4000000 in
theorem gl_Mod_wordAt_7 {Δ : Dx} {X : Lx} (hX : MX Δ X)   {n : Nat} {I : IM} {Γ : Cx} (hk : Γ.k = 1) {r : Int32} (hT : Tg Δ Γ (some (.int r)) NN (I, X) 0 0)  : ∀ (f : Nat) (x1 : Int32) (x2 : Int32) (x3 : Int32) (x4 : Int32), l_Mod_wordAt_7 n X.1 I  f x1 x2 x3 x4 = some r → GG Δ m_Mod_wordAt Γ NN 0 0 (I, X) 7 [some (.ref (Δ.ba + MO)), some (.int (x1)), some (.int (x2)), some (.int (x3)), some (.int (x4)), none, none, none] []
  | 0, _, _, _, _, h => by cases h
  | f + 1, x1, x2, x3, x4, h => by
    have ih := gl_Mod_wordAt_7 (n := n) hX hk hT  f
    rw [l_Mod_wordAt_7] at h
    refine g_iload (pc := 7) (dd d_Mod_wordAt 4 rfl) rfl ?_
    refine g_bipush (pc := 9) (v := 70) (dd d_Mod_wordAt 5 rfl) (by decide) ?_
    refine g_icmpge (pc := 11) (tgt := 108) (dd d_Mod_wordAt 6 rfl) (by decide) (fun q1 => ?_) (fun q1 => ?_)
    · replace h := ite_t h q1
      refine g_iload_n (pc := 108) (dd d_Mod_wordAt 57 rfl) rfl ?_
      cases h
      exact g_iret (pc := 109) rfl (dd d_Mod_wordAt 58 rfl) hT
    · replace h := ite_f h q1
      refine g_iload_n (pc := 14) (dd d_Mod_wordAt 7 rfl) rfl ?_
      refine g_istore (pc := 15) (dd d_Mod_wordAt 8 rfl) (by decide) ?_
      refine g_aload_n (pc := 17) (dd d_Mod_wordAt 9 rfl) rfl ?_
      refine g_getr (pc := 18) (dd d_Mod_wordAt 10 rfl) f_Mod_13 ob_MO rfl (mr_words hX) ?_
      refine g_iload (pc := 21) (dd d_Mod_wordAt 11 rfl) rfl ?_
      obtain ⟨c2, h⟩ := chk_e h
      refine g_lald (pc := 23) (dd d_Mod_wordAt 12 rfl) ar_A_words c2 ?_
      refine g_lstore (pc := 24) (dd d_Mod_wordAt 13 rfl) (by decide) ?_
      exact gl_Mod_wordAt_26 hX hk hT ih _ _ _ _ _ _ _ h
def f_Mod_wordAt (n : Nat) (J : JM) (x1 : Int32) (x2 : Int32) (I : IM) : Option (Int32) := l_Mod_wordAt_7 n J I  n x1 x2 201 0
set_option maxRecDepth 20000 in
set_option maxHeartbeats 4000000 in
theorem ef_Mod_wordAt {Δ : Dx} {X : Lx} (hX : MX Δ X) {n : Nat} {x1 : Int32} {x2 : Int32}  {I : IM}  {r : Int32} (h : f_Mod_wordAt n X.1 x1 x2 I = some r) : Ev Δ 1 m_Mod_wordAt [.ref (Δ.ba + MO), .int x1, .int x2] (I, X) (some (.int r)) (I, X) := by
  refine ev_of (by decide) (Nat.le_of_ble_eq_true rfl) (fun Γ hk hR hT => ?_)
  change GG Δ m_Mod_wordAt Γ NN 0 0 (I, X) 0 [some (.ref (Δ.ba + MO)), some (.int (x1)), some (.int (x2)), none, none, none, none, none] []
  unfold f_Mod_wordAt at h
  refine g_sipush (pc := 0) (v := 201) (dd d_Mod_wordAt 0 rfl) (by decide) ?_
  refine g_istore_n (pc := 3) (dd d_Mod_wordAt 1 rfl) (by decide) ?_
  refine g_iconst (pc := 4) (v := 0) (dd d_Mod_wordAt 2 rfl) (by decide) ?_
  refine g_istore (pc := 5) (dd d_Mod_wordAt 3 rfl) (by decide) ?_
  exact gl_Mod_wordAt_7 hX hk hT  _ _ _ _ _ h
def b_Mod_isSign_132 (I : IM)   : Option (Int32) := some (1)
set_option maxRecDepth 20000 in
set_option maxHeartbeats 4000000 in
theorem gb_Mod_isSign_132 {Δ : Dx} {X : Lx} (hX : MX Δ X)   {I : IM} {Γ : Cx} (hk : Γ.k = 0) {r : Int32} (hT : Tg Δ Γ (some (.int r)) NN (I, X) 0 0)   (h : b_Mod_isSign_132 I   = some r) : GG Δ m_Mod_isSign Γ NN 0 0 (I, X) 132 [none] [] := by
  unfold b_Mod_isSign_132 at h
  refine g_iconst (pc := 132) (v := 1) (dd d_Mod_isSign 2 rfl) (by decide) ?_
  cases h
  exact g_zret (pc := 133) rfl (by decide) (dd d_Mod_isSign 3 rfl) hT
def f_Mod_isSign (x0 : Int32) (I : IM) : Option (Int32) := if x0 = 33 then (b_Mod_isSign_132 I  ) else (if x0 = 38 then (b_Mod_isSign_132 I  ) else (if x0 = 40 then (b_Mod_isSign_132 I  ) else (if x0 = 41 then (b_Mod_isSign_132 I  ) else (if x0 = 43 then (b_Mod_isSign_132 I  ) else (if x0 = 44 then (b_Mod_isSign_132 I  ) else (if x0 = 45 then (b_Mod_isSign_132 I  ) else (if x0 = 58 then (b_Mod_isSign_132 I  ) else (if x0 = 59 then (b_Mod_isSign_132 I  ) else (if x0 = 60 then (b_Mod_isSign_132 I  ) else (if x0 = 61 then (b_Mod_isSign_132 I  ) else (if x0 = 63 then (b_Mod_isSign_132 I  ) else (if x0 = 94 then (b_Mod_isSign_132 I  ) else (if x0 = 124 then (b_Mod_isSign_132 I  ) else (if x0 = 126 then (b_Mod_isSign_132 I  ) else (some (0))))))))))))))))
set_option maxRecDepth 20000 in
set_option maxHeartbeats 4000000 in
theorem ef_Mod_isSign {Δ : Dx} {X : Lx} (hX : MX Δ X) {x0 : Int32}  {I : IM}  {r : Int32} (h : f_Mod_isSign x0 I = some r) : Ev Δ 0 m_Mod_isSign [.int x0] (I, X) (some (.int r)) (I, X) := by
  refine ev_of (by decide) (Nat.le_of_ble_eq_true rfl) (fun Γ hk hR hT => ?_)
  change GG Δ m_Mod_isSign Γ NN 0 0 (I, X) 0 [some (.int (x0))] []
  unfold f_Mod_isSign at h
  refine g_iload_n (pc := 0) (dd d_Mod_isSign 0 rfl) rfl ?_
  refine g_lookupC (pc := 1) (dd d_Mod_isSign 1 rfl) (by decide) (List.forall_mem_cons.mpr ⟨fun w1 => ⟨132, by decide, ?_⟩, List.forall_mem_cons.mpr ⟨fun w1 => ⟨132, by decide, ?_⟩, List.forall_mem_cons.mpr ⟨fun w1 => ⟨132, by decide, ?_⟩, List.forall_mem_cons.mpr ⟨fun w1 => ⟨132, by decide, ?_⟩, List.forall_mem_cons.mpr ⟨fun w1 => ⟨132, by decide, ?_⟩, List.forall_mem_cons.mpr ⟨fun w1 => ⟨132, by decide, ?_⟩, List.forall_mem_cons.mpr ⟨fun w1 => ⟨132, by decide, ?_⟩, List.forall_mem_cons.mpr ⟨fun w1 => ⟨132, by decide, ?_⟩, List.forall_mem_cons.mpr ⟨fun w1 => ⟨132, by decide, ?_⟩, List.forall_mem_cons.mpr ⟨fun w1 => ⟨132, by decide, ?_⟩, List.forall_mem_cons.mpr ⟨fun w1 => ⟨132, by decide, ?_⟩, List.forall_mem_cons.mpr ⟨fun w1 => ⟨132, by decide, ?_⟩, List.forall_mem_cons.mpr ⟨fun w1 => ⟨132, by decide, ?_⟩, List.forall_mem_cons.mpr ⟨fun w1 => ⟨132, by decide, ?_⟩, List.forall_mem_cons.mpr ⟨fun w1 => ⟨132, by decide, ?_⟩, (fun _ h => absurd h List.not_mem_nil)⟩⟩⟩⟩⟩⟩⟩⟩⟩⟩⟩⟩⟩⟩⟩) (fun w1 => ⟨134, by decide, ?_⟩)
  · replace w1 : x0 = 33 := Int32.toInt_inj.mp w1
    replace h := ite_t h w1
    refine g_drop [0] ?_
    exact gb_Mod_isSign_132 hX hk hT  h
  · replace w1 : x0 = 38 := Int32.toInt_inj.mp w1
    replace h := ite_f h (by rw [w1]; decide)
    replace h := ite_t h w1
    refine g_drop [0] ?_
    exact gb_Mod_isSign_132 hX hk hT  h
  · replace w1 : x0 = 40 := Int32.toInt_inj.mp w1
    replace h := ite_f h (by rw [w1]; decide)
    replace h := ite_f h (by rw [w1]; decide)
    replace h := ite_t h w1
    refine g_drop [0] ?_
    exact gb_Mod_isSign_132 hX hk hT  h
  · replace w1 : x0 = 41 := Int32.toInt_inj.mp w1
    replace h := ite_f h (by rw [w1]; decide)
    replace h := ite_f h (by rw [w1]; decide)
    replace h := ite_f h (by rw [w1]; decide)
    replace h := ite_t h w1
    refine g_drop [0] ?_
    exact gb_Mod_isSign_132 hX hk hT  h
  · replace w1 : x0 = 43 := Int32.toInt_inj.mp w1
    replace h := ite_f h (by rw [w1]; decide)
    replace h := ite_f h (by rw [w1]; decide)
    replace h := ite_f h (by rw [w1]; decide)
    replace h := ite_f h (by rw [w1]; decide)
    replace h := ite_t h w1
    refine g_drop [0] ?_
    exact gb_Mod_isSign_132 hX hk hT  h
  · replace w1 : x0 = 44 := Int32.toInt_inj.mp w1
    replace h := ite_f h (by rw [w1]; decide)
    replace h := ite_f h (by rw [w1]; decide)
    replace h := ite_f h (by rw [w1]; decide)
    replace h := ite_f h (by rw [w1]; decide)
    replace h := ite_f h (by rw [w1]; decide)
    replace h := ite_t h w1
    refine g_drop [0] ?_
    exact gb_Mod_isSign_132 hX hk hT  h
  · replace w1 : x0 = 45 := Int32.toInt_inj.mp w1
    replace h := ite_f h (by rw [w1]; decide)
    replace h := ite_f h (by rw [w1]; decide)
    replace h := ite_f h (by rw [w1]; decide)
    replace h := ite_f h (by rw [w1]; decide)
    replace h := ite_f h (by rw [w1]; decide)
    replace h := ite_f h (by rw [w1]; decide)
    replace h := ite_t h w1
    refine g_drop [0] ?_
    exact gb_Mod_isSign_132 hX hk hT  h
  · replace w1 : x0 = 58 := Int32.toInt_inj.mp w1
    replace h := ite_f h (by rw [w1]; decide)
    replace h := ite_f h (by rw [w1]; decide)
    replace h := ite_f h (by rw [w1]; decide)
    replace h := ite_f h (by rw [w1]; decide)
    replace h := ite_f h (by rw [w1]; decide)
    replace h := ite_f h (by rw [w1]; decide)
    replace h := ite_f h (by rw [w1]; decide)
    replace h := ite_t h w1
    refine g_drop [0] ?_
    exact gb_Mod_isSign_132 hX hk hT  h
  · replace w1 : x0 = 59 := Int32.toInt_inj.mp w1
    replace h := ite_f h (by rw [w1]; decide)
    replace h := ite_f h (by rw [w1]; decide)
    replace h := ite_f h (by rw [w1]; decide)
    replace h := ite_f h (by rw [w1]; decide)
    replace h := ite_f h (by rw [w1]; decide)
    replace h := ite_f h (by rw [w1]; decide)
    replace h := ite_f h (by rw [w1]; decide)
    replace h := ite_f h (by rw [w1]; decide)
    replace h := ite_t h w1
    refine g_drop [0] ?_
    exact gb_Mod_isSign_132 hX hk hT  h
  · replace w1 : x0 = 60 := Int32.toInt_inj.mp w1
    replace h := ite_f h (by rw [w1]; decide)
    replace h := ite_f h (by rw [w1]; decide)
    replace h := ite_f h (by rw [w1]; decide)
    replace h := ite_f h (by rw [w1]; decide)
    replace h := ite_f h (by rw [w1]; decide)
    replace h := ite_f h (by rw [w1]; decide)
    replace h := ite_f h (by rw [w1]; decide)
    replace h := ite_f h (by rw [w1]; decide)
    replace h := ite_f h (by rw [w1]; decide)
    replace h := ite_t h w1
    refine g_drop [0] ?_
    exact gb_Mod_isSign_132 hX hk hT  h
  · replace w1 : x0 = 61 := Int32.toInt_inj.mp w1
    replace h := ite_f h (by rw [w1]; decide)
    replace h := ite_f h (by rw [w1]; decide)
    replace h := ite_f h (by rw [w1]; decide)
    replace h := ite_f h (by rw [w1]; decide)
    replace h := ite_f h (by rw [w1]; decide)
    replace h := ite_f h (by rw [w1]; decide)
    replace h := ite_f h (by rw [w1]; decide)
    replace h := ite_f h (by rw [w1]; decide)
    replace h := ite_f h (by rw [w1]; decide)
    replace h := ite_f h (by rw [w1]; decide)
    replace h := ite_t h w1
    refine g_drop [0] ?_
    exact gb_Mod_isSign_132 hX hk hT  h
  · replace w1 : x0 = 63 := Int32.toInt_inj.mp w1
    replace h := ite_f h (by rw [w1]; decide)
    replace h := ite_f h (by rw [w1]; decide)
    replace h := ite_f h (by rw [w1]; decide)
    replace h := ite_f h (by rw [w1]; decide)
    replace h := ite_f h (by rw [w1]; decide)
    replace h := ite_f h (by rw [w1]; decide)
    replace h := ite_f h (by rw [w1]; decide)
    replace h := ite_f h (by rw [w1]; decide)
    replace h := ite_f h (by rw [w1]; decide)
    replace h := ite_f h (by rw [w1]; decide)
    replace h := ite_f h (by rw [w1]; decide)
    replace h := ite_t h w1
    refine g_drop [0] ?_
    exact gb_Mod_isSign_132 hX hk hT  h
  · replace w1 : x0 = 94 := Int32.toInt_inj.mp w1
    replace h := ite_f h (by rw [w1]; decide)
    replace h := ite_f h (by rw [w1]; decide)
    replace h := ite_f h (by rw [w1]; decide)
    replace h := ite_f h (by rw [w1]; decide)
    replace h := ite_f h (by rw [w1]; decide)
    replace h := ite_f h (by rw [w1]; decide)
    replace h := ite_f h (by rw [w1]; decide)
    replace h := ite_f h (by rw [w1]; decide)
    replace h := ite_f h (by rw [w1]; decide)
    replace h := ite_f h (by rw [w1]; decide)
    replace h := ite_f h (by rw [w1]; decide)
    replace h := ite_f h (by rw [w1]; decide)
    replace h := ite_t h w1
    refine g_drop [0] ?_
    exact gb_Mod_isSign_132 hX hk hT  h
  · replace w1 : x0 = 124 := Int32.toInt_inj.mp w1
    replace h := ite_f h (by rw [w1]; decide)
    replace h := ite_f h (by rw [w1]; decide)
    replace h := ite_f h (by rw [w1]; decide)
    replace h := ite_f h (by rw [w1]; decide)
    replace h := ite_f h (by rw [w1]; decide)
    replace h := ite_f h (by rw [w1]; decide)
    replace h := ite_f h (by rw [w1]; decide)
    replace h := ite_f h (by rw [w1]; decide)
    replace h := ite_f h (by rw [w1]; decide)
    replace h := ite_f h (by rw [w1]; decide)
    replace h := ite_f h (by rw [w1]; decide)
    replace h := ite_f h (by rw [w1]; decide)
    replace h := ite_f h (by rw [w1]; decide)
    replace h := ite_t h w1
    refine g_drop [0] ?_
    exact gb_Mod_isSign_132 hX hk hT  h
  · replace w1 : x0 = 126 := Int32.toInt_inj.mp w1
    replace h := ite_f h (by rw [w1]; decide)
    replace h := ite_f h (by rw [w1]; decide)
    replace h := ite_f h (by rw [w1]; decide)
    replace h := ite_f h (by rw [w1]; decide)
    replace h := ite_f h (by rw [w1]; decide)
    replace h := ite_f h (by rw [w1]; decide)
    replace h := ite_f h (by rw [w1]; decide)
    replace h := ite_f h (by rw [w1]; decide)
    replace h := ite_f h (by rw [w1]; decide)
    replace h := ite_f h (by rw [w1]; decide)
    replace h := ite_f h (by rw [w1]; decide)
    replace h := ite_f h (by rw [w1]; decide)
    replace h := ite_f h (by rw [w1]; decide)
    replace h := ite_f h (by rw [w1]; decide)
    replace h := ite_t h w1
    refine g_drop [0] ?_
    exact gb_Mod_isSign_132 hX hk hT  h
  · skip
    replace h := ite_f h (fun e => w1 (33, 131) (by decide) (by rw [e]; rfl))
    replace h := ite_f h (fun e => w1 (38, 131) (by decide) (by rw [e]; rfl))
    replace h := ite_f h (fun e => w1 (40, 131) (by decide) (by rw [e]; rfl))
    replace h := ite_f h (fun e => w1 (41, 131) (by decide) (by rw [e]; rfl))
    replace h := ite_f h (fun e => w1 (43, 131) (by decide) (by rw [e]; rfl))
    replace h := ite_f h (fun e => w1 (44, 131) (by decide) (by rw [e]; rfl))
    replace h := ite_f h (fun e => w1 (45, 131) (by decide) (by rw [e]; rfl))
    replace h := ite_f h (fun e => w1 (58, 131) (by decide) (by rw [e]; rfl))
    replace h := ite_f h (fun e => w1 (59, 131) (by decide) (by rw [e]; rfl))
    replace h := ite_f h (fun e => w1 (60, 131) (by decide) (by rw [e]; rfl))
    replace h := ite_f h (fun e => w1 (61, 131) (by decide) (by rw [e]; rfl))
    replace h := ite_f h (fun e => w1 (63, 131) (by decide) (by rw [e]; rfl))
    replace h := ite_f h (fun e => w1 (94, 131) (by decide) (by rw [e]; rfl))
    replace h := ite_f h (fun e => w1 (124, 131) (by decide) (by rw [e]; rfl))
    replace h := ite_f h (fun e => w1 (126, 131) (by decide) (by rw [e]; rfl))
    refine g_iconst (pc := 134) (v := 0) (dd d_Mod_isSign 4 rfl) (by decide) ?_
    cases h
    exact g_zret (pc := 135) rfl (by decide) (dd d_Mod_isSign 5 rfl) hT
def b_Mod_advance_93 (n : Nat) (J : JM) (H2 : Int32 → IM → Option (IM)) (x1 : Int32) (x3 : Int32) (I : IM) : Option (IM) := lt (up I MO 13 (if x1 = 0 then (I MO 13) else (if x3 = 0 then ((I MO 13) + (1)) else (I MO 13)))) fun I46 => H2 x1 I46
set_option maxRecDepth 20000 in
set_option maxHeartbeats 4000000 in
theorem gb_Mod_advance_93 {Δ : Dx} {X : Lx} (hX : MX Δ X)   {n : Nat} {Γ : Cx} (hk : Γ.k = 2) {r : IM} (hT : Tg Δ Γ none NN (r, X) 0 0) {H2 : Int32 → IM → Option (IM)} (hH2 : ∀ (x1 : Int32) (I : IM), H2 x1 I = some r → GG Δ m_Mod_advance Γ NN 0 0 (I, X) 2 [some (.ref (Δ.ba + MO)), some (.int (x1)), none, none] []) {x1 : Int32} {x3 : Int32} {I : IM} (h : b_Mod_advance_93 n X.1 H2 x1 x3 I = some r) : GG Δ m_Mod_advance Γ NN 0 0 (I, X) 93 [some (.ref (Δ.ba + MO)), some (.int (x1)), none, some (.int (x3))] [] := by
  unfold b_Mod_advance_93 at h
  refine g_aload_n (pc := 93) (dd d_Mod_advance 50 rfl) rfl ?_
  refine g_iload_n (pc := 94) (dd d_Mod_advance 51 rfl) rfl ?_
  suffices K95 : ∀ z : Int32, z = (if x1 = 0 then (I MO 13) else (if x3 = 0 then ((I MO 13) + (1)) else (I MO 13)) : Int32) → GG Δ m_Mod_advance Γ NN 0 0 (I, X) 115 [some (.ref (Δ.ba + MO)), some (.int (x1)), none, some (.int (x3))] [.int (z), .ref (Δ.ba + MO)] by
    refine g_ifeq (pc := 95) (tgt := 111) (dd d_Mod_advance 52 rfl) (by decide) (fun q44 => ?_) (fun q44 => ?_)
    · skip
      refine g_aload_n (pc := 111) (dd d_Mod_advance_1 0 rfl) rfl ?_
      refine g_geti (pc := 112) (dd d_Mod_advance_1 1 rfl) f_Mod_260 ob_MO rfl ?_
      exact K95 _ (by rw [if_pos q44])
    · skip
      refine g_iload_n (pc := 98) (dd d_Mod_advance 53 rfl) rfl ?_
      refine g_ifne (pc := 99) (tgt := 111) (dd d_Mod_advance 54 rfl) (by decide) (fun q45 => ?_) (fun q45 => ?_)
      · skip
        refine g_aload_n (pc := 111) (dd d_Mod_advance_1 0 rfl) rfl ?_
        refine g_geti (pc := 112) (dd d_Mod_advance_1 1 rfl) f_Mod_260 ob_MO rfl ?_
        exact K95 _ (by rw [if_neg q44, if_neg q45])
      · skip
        refine g_aload_n (pc := 102) (dd d_Mod_advance 55 rfl) rfl ?_
        refine g_geti (pc := 103) (dd d_Mod_advance 56 rfl) f_Mod_260 ob_MO rfl ?_
        refine g_iconst (pc := 106) (v := 1) (dd d_Mod_advance 57 rfl) (by decide) ?_
        refine g_iadd (pc := 107) (dd d_Mod_advance 58 rfl) ?_
        refine g_goto (pc := 108) (tgt := 115) (dd d_Mod_advance 59 rfl) (by decide) ?_
        exact K95 _ (by rw [if_neg q44, if_pos q45])
  intro z hz
  subst hz
  refine g_putiN (pc := 115) (dd d_Mod_advance_1 2 rfl) f_Mod_260 fm_Mod_13 ob_MO rfl (fun I46 hI46 => ?_)
  replace h := lt_e h hI46
  refine g_goto (pc := 118) (tgt := 2) (dd d_Mod_advance_1 3 rfl) (by decide) ?_
  refine g_drop [3] ?_
  exact hH2 _ _ h
def l_Mod_advance_51 (n : Nat) (J : JM) (H2 : Int32 → IM → Option (IM)) : Nat → Int32 → Int32 → IM → Option (IM)
  | 0, _, _, _ => none
  | f + 1, x1, x3, I => if x3 = 0 then (b_Mod_advance_93 n J H2 x1 x3 I) else (if (I MO 2 : Int32) ≤ (I MO 13 : Int32) then (b_Mod_advance_93 n J H2 x1 x3 I) else (chk (inb (I MO 13) 900) <| if (I A_signs (I MO 13 : Int32).toNatClampNeg : Int32) = (10 : Int32) then (b_Mod_advance_93 n J H2 x1 x3 I) else (lt (up I MO 13 ((I MO 13) + 1)) fun I43 => (l_Mod_advance_51 n J H2 f) x1 x3 I43)))
set_option maxRecDepth 20000 in
set_option maxHeartbeats 4000000 in
theorem gl_Mod_advance_51 {Δ : Dx} {X : Lx} (hX : MX Δ X)   {n : Nat} {Γ : Cx} (hk : Γ.k = 2) {r : IM} (hT : Tg Δ Γ none NN (r, X) 0 0) {H2 : Int32 → IM → Option (IM)} (hH2 : ∀ (x1 : Int32) (I : IM), H2 x1 I = some r → GG Δ m_Mod_advance Γ NN 0 0 (I, X) 2 [some (.ref (Δ.ba + MO)), some (.int (x1)), none, none] []) : ∀ (f : Nat) (x1 : Int32) (x3 : Int32) (I : IM), l_Mod_advance_51 n X.1 H2 f x1 x3 I = some r → GG Δ m_Mod_advance Γ NN 0 0 (I, X) 51 [some (.ref (Δ.ba + MO)), some (.int (x1)), none, some (.int (x3))] []
  | 0, _, _, _, h => by cases h
  | f + 1, x1, x3, I, h => by
    have ih := gl_Mod_advance_51 (n := n) hX hk hT hH2 f
    rw [l_Mod_advance_51] at h
    refine g_iload_n (pc := 51) (dd d_Mod_advance 29 rfl) rfl ?_
    refine g_ifeq (pc := 52) (tgt := 93) (dd d_Mod_advance 30 rfl) (by decide) (fun q39 => ?_) (fun q39 => ?_)
    · replace h := ite_t h q39
      exact gb_Mod_advance_93 hX hk hT hH2 h
    · replace h := ite_f h q39
      refine g_aload_n (pc := 55) (dd d_Mod_advance 31 rfl) rfl ?_
      refine g_geti (pc := 56) (dd d_Mod_advance 32 rfl) f_Mod_260 ob_MO rfl ?_
      refine g_aload_n (pc := 59) (dd d_Mod_advance 33 rfl) rfl ?_
      refine g_geti (pc := 60) (dd d_Mod_advance 34 rfl) f_Mod_247 ob_MO rfl ?_
      refine g_icmpge (pc := 63) (tgt := 93) (dd d_Mod_advance 35 rfl) (by decide) (fun q40 => ?_) (fun q40 => ?_)
      · replace h := ite_t h q40
        exact gb_Mod_advance_93 hX hk hT hH2 h
      · replace h := ite_f h q40
        refine g_aload_n (pc := 66) (dd d_Mod_advance 36 rfl) rfl ?_
        refine g_getr (pc := 67) (dd d_Mod_advance 37 rfl) f_Mod_7 ob_MO rfl (mr_signs hX) ?_
        refine g_aload_n (pc := 70) (dd d_Mod_advance 38 rfl) rfl ?_
        refine g_geti (pc := 71) (dd d_Mod_advance 39 rfl) f_Mod_260 ob_MO rfl ?_
        obtain ⟨c41, h⟩ := chk_e h
        refine g_iald (pc := 74) (dd d_Mod_advance 40 rfl) ar_A_signs c41 ?_
        refine g_bipush (pc := 75) (v := 10) (dd d_Mod_advance 41 rfl) (by decide) ?_
        refine g_icmpeq (pc := 77) (tgt := 93) (dd d_Mod_advance 42 rfl) (by decide) (fun q42 => ?_) (fun q42 => ?_)
        · replace h := ite_t h q42
          exact gb_Mod_advance_93 hX hk hT hH2 h
        · replace h := ite_f h q42
          refine g_aload_n (pc := 80) (dd d_Mod_advance 43 rfl) rfl ?_
          refine g_dup (pc := 81) (dd d_Mod_advance 44 rfl) rfl ?_
          refine g_geti (pc := 82) (dd d_Mod_advance 45 rfl) f_Mod_260 ob_MO rfl ?_
          refine g_iconst (pc := 85) (v := 1) (dd d_Mod_advance 46 rfl) (by decide) ?_
          refine g_iadd (pc := 86) (dd d_Mod_advance 47 rfl) ?_
          refine g_putiN (pc := 87) (dd d_Mod_advance 48 rfl) f_Mod_260 fm_Mod_13 ob_MO rfl (fun I43 hI43 => ?_)
          replace h := lt_e h hI43
          refine g_goto (pc := 90) (tgt := 51) (dd d_Mod_advance 49 rfl) (by decide) ?_
          exact ih _ _ _ h
def b_Mod_advance_459 (n : Nat) (J : JM)   (I : IM) : Option (IM) := some I
set_option maxRecDepth 20000 in
set_option maxHeartbeats 4000000 in
theorem gb_Mod_advance_459 {Δ : Dx} {X : Lx} (hX : MX Δ X)   {n : Nat} {Γ : Cx} (hk : Γ.k = 2) {r : IM} (hT : Tg Δ Γ none NN (r, X) 0 0)   {I : IM} (h : b_Mod_advance_459 n X.1   I = some r) : GG Δ m_Mod_advance Γ NN 0 0 (I, X) 459 [none, none, none, none] [] := by
  unfold b_Mod_advance_459 at h
  cases h
  exact g_vret (pc := 459) rfl (dd d_Mod_advance_3 48 rfl) hT
def l_Mod_advance_149 (n : Nat) (J : JM)  : Nat → IM → Option (IM)
  | 0, _ => none
  | f + 1, I => Option.bind (f_Mod_sign  (I MO 13) I) fun v47 => Option.bind (f_Mod_in  v47 97 122 I) fun v49 => if v49 = 0 then (Option.bind (f_Mod_wordAt n J (I MO 12) (I MO 13) I) fun v52 => lt (up I MO 10 (v52)) fun I54 => b_Mod_advance_459 n J  I54) else (lt (up I MO 13 ((I MO 13) + 1)) fun I55 => (l_Mod_advance_149 n J  f) I55)
set_option maxRecDepth 20000 in
set_option maxHeartbeats 4000000 in
theorem gl_Mod_advance_149 {Δ : Dx} {X : Lx} (hX : MX Δ X)   {n : Nat} {Γ : Cx} (hk : Γ.k = 2) {r : IM} (hT : Tg Δ Γ none NN (r, X) 0 0)  : ∀ (f : Nat)  (I : IM), l_Mod_advance_149 n X.1  f  I = some r → GG Δ m_Mod_advance Γ NN 0 0 (I, X) 149 [some (.ref (Δ.ba + MO)), none, none, none] []
  | 0, _, h => by cases h
  | f + 1, I, h => by
    have ih := gl_Mod_advance_149 (n := n) hX hk hT  f
    rw [l_Mod_advance_149] at h
    refine g_aload_n (pc := 149) (dd d_Mod_advance_1 18 rfl) rfl ?_
    refine g_aload_n (pc := 150) (dd d_Mod_advance_1 19 rfl) rfl ?_
    refine g_geti (pc := 151) (dd d_Mod_advance_1 20 rfl) f_Mod_260 ob_MO rfl ?_
    obtain ⟨v47, e48, h⟩ := bnd_e h
    refine g_callV (pc := 154) (dd d_Mod_advance_1 21 rfl) v_Mod_254 ob_MO rfl (ef_Mod_sign hX e48) rfl (by rw [hk]; decide) (Nat.le_of_ble_eq_true rfl) ⟨Nat.zero_le _, Nat.zero_le _⟩ rfl ?_
    refine g_bipush (pc := 157) (v := 97) (dd d_Mod_advance_1 22 rfl) (by decide) ?_
    refine g_bipush (pc := 159) (v := 122) (dd d_Mod_advance_1 23 rfl) (by decide) ?_
    obtain ⟨v49, e50, h⟩ := bnd_e h
    refine g_callS (pc := 161) (dd d_Mod_advance_1 24 rfl) s_Mod_243 (ef_Mod_in hX e50) rfl (by rw [hk]; decide) (Nat.le_of_ble_eq_true rfl) ⟨Nat.zero_le _, Nat.zero_le _⟩ rfl ?_
    refine g_ifeq (pc := 164) (tgt := 180) (dd d_Mod_advance_1 25 rfl) (by decide) (fun q51 => ?_) (fun q51 => ?_)
    · replace h := ite_t h q51
      refine g_aload_n (pc := 180) (dd d_Mod_advance_1 33 rfl) rfl ?_
      refine g_aload_n (pc := 181) (dd d_Mod_advance_1 34 rfl) rfl ?_
      refine g_aload_n (pc := 182) (dd d_Mod_advance_1 35 rfl) rfl ?_
      refine g_geti (pc := 183) (dd d_Mod_advance_1 36 rfl) f_Mod_263 ob_MO rfl ?_
      refine g_aload_n (pc := 186) (dd d_Mod_advance_1 37 rfl) rfl ?_
      refine g_geti (pc := 187) (dd d_Mod_advance_1 38 rfl) f_Mod_260 ob_MO rfl ?_
      obtain ⟨v52, e53, h⟩ := bnd_e h
      refine g_callV (pc := 190) (dd d_Mod_advance_1 39 rfl) v_Mod_266 ob_MO rfl (ef_Mod_wordAt hX e53) rfl (by rw [hk]; decide) (Nat.le_of_ble_eq_true rfl) ⟨Nat.zero_le _, Nat.zero_le _⟩ rfl ?_
      refine g_putiN (pc := 193) (dd d_Mod_advance_1 40 rfl) f_Mod_270 fm_Mod_10 ob_MO rfl (fun I54 hI54 => ?_)
      replace h := lt_e h hI54
      refine g_goto (pc := 196) (tgt := 459) (dd d_Mod_advance_1 41 rfl) (by decide) ?_
      refine g_drop [0] ?_
      exact gb_Mod_advance_459 hX hk hT  h
    · replace h := ite_f h q51
      refine g_aload_n (pc := 167) (dd d_Mod_advance_1 26 rfl) rfl ?_
      refine g_dup (pc := 168) (dd d_Mod_advance_1 27 rfl) rfl ?_
      refine g_geti (pc := 169) (dd d_Mod_advance_1 28 rfl) f_Mod_260 ob_MO rfl ?_
      refine g_iconst (pc := 172) (v := 1) (dd d_Mod_advance_1 29 rfl) (by decide) ?_
      refine g_iadd (pc := 173) (dd d_Mod_advance_1 30 rfl) ?_
      refine g_putiN (pc := 174) (dd d_Mod_advance_1 31 rfl) f_Mod_260 fm_Mod_13 ob_MO rfl (fun I55 hI55 => ?_)
      replace h := lt_e h hI55
      refine g_goto (pc := 177) (tgt := 149) (dd d_Mod_advance_1 32 rfl) (by decide) ?_
      exact ih _ h
def b_Mod_advance_274 (n : Nat) (J : JM) (H215 : IM → Option (IM)) (y1 : Int32) (I : IM) : Option (IM) := lt (up I MO 11 (y1)) fun I66 => lt (up I66 MO 13 ((I66 MO 13) + 1)) fun I67 => H215 I67
set_option maxRecDepth 20000 in
set_option maxHeartbeats 4000000 in
theorem gb_Mod_advance_274 {Δ : Dx} {X : Lx} (hX : MX Δ X)   {n : Nat} {Γ : Cx} (hk : Γ.k = 2) {r : IM} (hT : Tg Δ Γ none NN (r, X) 0 0) {H215 : IM → Option (IM)} (hH215 : ∀  (I : IM), H215  I = some r → GG Δ m_Mod_advance Γ NN 0 0 (I, X) 215 [some (.ref (Δ.ba + MO)), none, none, none] []) {y1 : Int32} {I : IM} (h : b_Mod_advance_274 n X.1 H215 y1 I = some r) : GG Δ m_Mod_advance Γ NN 0 0 (I, X) 274 [some (.ref (Δ.ba + MO)), none, none, none] [.int (y1), .ref (Δ.ba + MO)] := by
  unfold b_Mod_advance_274 at h
  refine g_putiN (pc := 274) (dd d_Mod_advance_2 20 rfl) f_Mod_273 fm_Mod_11 ob_MO rfl (fun I66 hI66 => ?_)
  replace h := lt_e h hI66
  refine g_aload_n (pc := 277) (dd d_Mod_advance_2 21 rfl) rfl ?_
  refine g_dup (pc := 278) (dd d_Mod_advance_2 22 rfl) rfl ?_
  refine g_geti (pc := 279) (dd d_Mod_advance_2 23 rfl) f_Mod_260 ob_MO rfl ?_
  refine g_iconst (pc := 282) (v := 1) (dd d_Mod_advance_2 24 rfl) (by decide) ?_
  refine g_iadd (pc := 283) (dd d_Mod_advance_2 25 rfl) ?_
  refine g_putiN (pc := 284) (dd d_Mod_advance_2 26 rfl) f_Mod_260 fm_Mod_13 ob_MO rfl (fun I67 hI67 => ?_)
  replace h := lt_e h hI67
  refine g_goto (pc := 287) (tgt := 215) (dd d_Mod_advance_2 27 rfl) (by decide) ?_
  exact hH215 _ h
def l_Mod_advance_215 (n : Nat) (J : JM)  : Nat → IM → Option (IM)
  | 0, _ => none
  | f + 1, I => Option.bind (f_Mod_sign  (I MO 13) I) fun v56 => Option.bind (f_Mod_in  v56 48 57 I) fun v58 => if v58 = 0 then (lt (up I MO 10 (if ((I MO 13) - (I MO 12) : Int32) ≤ (7 : Int32) then 200 else 201)) fun I62 => b_Mod_advance_459 n J  I62) else (if (7 : Int32) ≤ ((I MO 13) - (I MO 12) : Int32) then (b_Mod_advance_274 n J (l_Mod_advance_215 n J  f) (I MO 11) I) else (Option.bind (f_Mod_sign  (I MO 13) I) fun v64 => b_Mod_advance_274 n J (l_Mod_advance_215 n J  f) (((10 * (I MO 11)) + v64) - 48) I))
set_option maxRecDepth 20000 in
set_option maxHeartbeats 4000000 in
theorem gl_Mod_advance_215 {Δ : Dx} {X : Lx} (hX : MX Δ X)   {n : Nat} {Γ : Cx} (hk : Γ.k = 2) {r : IM} (hT : Tg Δ Γ none NN (r, X) 0 0)  : ∀ (f : Nat)  (I : IM), l_Mod_advance_215 n X.1  f  I = some r → GG Δ m_Mod_advance Γ NN 0 0 (I, X) 215 [some (.ref (Δ.ba + MO)), none, none, none] []
  | 0, _, h => by cases h
  | f + 1, I, h => by
    have ih := gl_Mod_advance_215 (n := n) hX hk hT  f
    rw [l_Mod_advance_215] at h
    refine g_aload_n (pc := 215) (dd d_Mod_advance_1 50 rfl) rfl ?_
    refine g_aload_n (pc := 216) (dd d_Mod_advance_1 51 rfl) rfl ?_
    refine g_geti (pc := 217) (dd d_Mod_advance_1 52 rfl) f_Mod_260 ob_MO rfl ?_
    obtain ⟨v56, e57, h⟩ := bnd_e h
    refine g_callV (pc := 220) (dd d_Mod_advance_1 53 rfl) v_Mod_254 ob_MO rfl (ef_Mod_sign hX e57) rfl (by rw [hk]; decide) (Nat.le_of_ble_eq_true rfl) ⟨Nat.zero_le _, Nat.zero_le _⟩ rfl ?_
    refine g_bipush (pc := 223) (v := 48) (dd d_Mod_advance_1 54 rfl) (by decide) ?_
    refine g_bipush (pc := 225) (v := 57) (dd d_Mod_advance_1 55 rfl) (by decide) ?_
    obtain ⟨v58, e59, h⟩ := bnd_e h
    refine g_callS (pc := 227) (dd d_Mod_advance_1 56 rfl) s_Mod_243 (ef_Mod_in hX e59) rfl (by rw [hk]; decide) (Nat.le_of_ble_eq_true rfl) ⟨Nat.zero_le _, Nat.zero_le _⟩ rfl ?_
    refine g_ifeq (pc := 230) (tgt := 290) (dd d_Mod_advance_1 57 rfl) (by decide) (fun q60 => ?_) (fun q60 => ?_)
    · replace h := ite_t h q60
      refine g_aload_n (pc := 290) (dd d_Mod_advance_2 28 rfl) rfl ?_
      refine g_aload_n (pc := 291) (dd d_Mod_advance_2 29 rfl) rfl ?_
      refine g_geti (pc := 292) (dd d_Mod_advance_2 30 rfl) f_Mod_260 ob_MO rfl ?_
      refine g_aload_n (pc := 295) (dd d_Mod_advance_2 31 rfl) rfl ?_
      refine g_geti (pc := 296) (dd d_Mod_advance_2 32 rfl) f_Mod_263 ob_MO rfl ?_
      refine g_isub (pc := 299) (dd d_Mod_advance_2 33 rfl) ?_
      refine g_bipush (pc := 300) (v := 7) (dd d_Mod_advance_2 34 rfl) (by decide) ?_
      suffices K302 : ∀ z : Int32, z = (if ((I MO 13) - (I MO 12) : Int32) ≤ (7 : Int32) then 200 else 201 : Int32) → GG Δ m_Mod_advance Γ NN 0 0 (I, X) 314 [some (.ref (Δ.ba + MO)), none, none, none] [.int (z), .ref (Δ.ba + MO)] by
        refine g_icmple (pc := 302) (tgt := 311) (dd d_Mod_advance_2 35 rfl) (by decide) (fun q61 => ?_) (fun q61 => ?_)
        · skip
          refine g_sipush (pc := 311) (v := 200) (dd d_Mod_advance_2 38 rfl) (by decide) ?_
          exact K302 _ (by rw [if_pos q61])
        · skip
          refine g_sipush (pc := 305) (v := 201) (dd d_Mod_advance_2 36 rfl) (by decide) ?_
          refine g_goto (pc := 308) (tgt := 314) (dd d_Mod_advance_2 37 rfl) (by decide) ?_
          exact K302 _ (by rw [if_neg q61])
      intro z hz
      subst hz
      refine g_putiN (pc := 314) (dd d_Mod_advance_2 39 rfl) f_Mod_270 fm_Mod_10 ob_MO rfl (fun I62 hI62 => ?_)
      replace h := lt_e h hI62
      refine g_goto (pc := 317) (tgt := 459) (dd d_Mod_advance_2 40 rfl) (by decide) ?_
      refine g_drop [0] ?_
      exact gb_Mod_advance_459 hX hk hT  h
    · replace h := ite_f h q60
      refine g_aload_n (pc := 233) (dd d_Mod_advance_1 58 rfl) rfl ?_
      refine g_aload_n (pc := 234) (dd d_Mod_advance_1 59 rfl) rfl ?_
      refine g_geti (pc := 235) (dd d_Mod_advance_2 0 rfl) f_Mod_260 ob_MO rfl ?_
      refine g_aload_n (pc := 238) (dd d_Mod_advance_2 1 rfl) rfl ?_
      refine g_geti (pc := 239) (dd d_Mod_advance_2 2 rfl) f_Mod_263 ob_MO rfl ?_
      refine g_isub (pc := 242) (dd d_Mod_advance_2 3 rfl) ?_
      refine g_bipush (pc := 243) (v := 7) (dd d_Mod_advance_2 4 rfl) (by decide) ?_
      refine g_icmpge (pc := 245) (tgt := 270) (dd d_Mod_advance_2 5 rfl) (by decide) (fun q63 => ?_) (fun q63 => ?_)
      · replace h := ite_t h q63
        refine g_aload_n (pc := 270) (dd d_Mod_advance_2 18 rfl) rfl ?_
        refine g_geti (pc := 271) (dd d_Mod_advance_2 19 rfl) f_Mod_273 ob_MO rfl ?_
        exact gb_Mod_advance_274 hX hk hT ih h
      · replace h := ite_f h q63
        refine g_bipush (pc := 248) (v := 10) (dd d_Mod_advance_2 6 rfl) (by decide) ?_
        refine g_aload_n (pc := 250) (dd d_Mod_advance_2 7 rfl) rfl ?_
        refine g_geti (pc := 251) (dd d_Mod_advance_2 8 rfl) f_Mod_273 ob_MO rfl ?_
        refine g_imul (pc := 254) (dd d_Mod_advance_2 9 rfl) ?_
        refine g_aload_n (pc := 255) (dd d_Mod_advance_2 10 rfl) rfl ?_
        refine g_aload_n (pc := 256) (dd d_Mod_advance_2 11 rfl) rfl ?_
        refine g_geti (pc := 257) (dd d_Mod_advance_2 12 rfl) f_Mod_260 ob_MO rfl ?_
        obtain ⟨v64, e65, h⟩ := bnd_e h
        refine g_callV (pc := 260) (dd d_Mod_advance_2 13 rfl) v_Mod_254 ob_MO rfl (ef_Mod_sign hX e65) rfl (by rw [hk]; decide) (Nat.le_of_ble_eq_true rfl) ⟨Nat.zero_le _, Nat.zero_le _⟩ rfl ?_
        refine g_iadd (pc := 263) (dd d_Mod_advance_2 14 rfl) ?_
        refine g_bipush (pc := 264) (v := 48) (dd d_Mod_advance_2 15 rfl) (by decide) ?_
        refine g_isub (pc := 266) (dd d_Mod_advance_2 16 rfl) ?_
        refine g_goto (pc := 267) (tgt := 274) (dd d_Mod_advance_2 17 rfl) (by decide) ?_
        exact gb_Mod_advance_274 hX hk hT ih h
def b_Mod_advance_422 (n : Nat) (J : JM)  (x2 : Int32) (x3 : Int32) (y1 : Int32) (I : IM) : Option (IM) := lt (up I MO 10 (y1)) fun I68 => lt (up I68 MO 13 (if x2 = 0 then (I68 MO 13) else (if x3 = 0 then ((I68 MO 13) + (1)) else ((I68 MO 13) + (2))))) fun I71 => b_Mod_advance_459 n J  I71
set_option maxRecDepth 20000 in
set_option maxHeartbeats 4000000 in
theorem gb_Mod_advance_422 {Δ : Dx} {X : Lx} (hX : MX Δ X)   {n : Nat} {Γ : Cx} (hk : Γ.k = 2) {r : IM} (hT : Tg Δ Γ none NN (r, X) 0 0)  {x2 : Int32} {x3 : Int32} {y1 : Int32} {I : IM} (h : b_Mod_advance_422 n X.1  x2 x3 y1 I = some r) : GG Δ m_Mod_advance Γ NN 0 0 (I, X) 422 [some (.ref (Δ.ba + MO)), none, some (.int (x2)), some (.int (x3))] [.int (y1), .ref (Δ.ba + MO)] := by
  unfold b_Mod_advance_422 at h
  refine g_putiN (pc := 422) (dd d_Mod_advance_3 29 rfl) f_Mod_270 fm_Mod_10 ob_MO rfl (fun I68 hI68 => ?_)
  replace h := lt_e h hI68
  refine g_aload_n (pc := 425) (dd d_Mod_advance_3 30 rfl) rfl ?_
  refine g_iload_n (pc := 426) (dd d_Mod_advance_3 31 rfl) rfl ?_
  suffices K427 : ∀ z : Int32, z = (if x2 = 0 then (I68 MO 13) else (if x3 = 0 then ((I68 MO 13) + (1)) else ((I68 MO 13) + (2))) : Int32) → GG Δ m_Mod_advance Γ NN 0 0 (I68, X) 456 [some (.ref (Δ.ba + MO)), none, some (.int (x2)), some (.int (x3))] [.int (z), .ref (Δ.ba + MO)] by
    refine g_ifne (pc := 427) (tgt := 437) (dd d_Mod_advance_3 32 rfl) (by decide) (fun q69 => ?_) (fun q69 => ?_)
    · skip
      refine g_iload_n (pc := 437) (dd d_Mod_advance_3 36 rfl) rfl ?_
      refine g_ifeq (pc := 438) (tgt := 450) (dd d_Mod_advance_3 37 rfl) (by decide) (fun q70 => ?_) (fun q70 => ?_)
      · skip
        refine g_aload_n (pc := 450) (dd d_Mod_advance_3 43 rfl) rfl ?_
        refine g_geti (pc := 451) (dd d_Mod_advance_3 44 rfl) f_Mod_260 ob_MO rfl ?_
        refine g_iconst (pc := 454) (v := 1) (dd d_Mod_advance_3 45 rfl) (by decide) ?_
        refine g_iadd (pc := 455) (dd d_Mod_advance_3 46 rfl) ?_
        exact K427 _ (by rw [if_neg q69, if_pos q70])
      · skip
        refine g_aload_n (pc := 441) (dd d_Mod_advance_3 38 rfl) rfl ?_
        refine g_geti (pc := 442) (dd d_Mod_advance_3 39 rfl) f_Mod_260 ob_MO rfl ?_
        refine g_iconst (pc := 445) (v := 2) (dd d_Mod_advance_3 40 rfl) (by decide) ?_
        refine g_iadd (pc := 446) (dd d_Mod_advance_3 41 rfl) ?_
        refine g_goto (pc := 447) (tgt := 456) (dd d_Mod_advance_3 42 rfl) (by decide) ?_
        exact K427 _ (by rw [if_neg q69, if_neg q70])
    · skip
      refine g_aload_n (pc := 430) (dd d_Mod_advance_3 33 rfl) rfl ?_
      refine g_geti (pc := 431) (dd d_Mod_advance_3 34 rfl) f_Mod_260 ob_MO rfl ?_
      refine g_goto (pc := 434) (tgt := 456) (dd d_Mod_advance_3 35 rfl) (by decide) ?_
      exact K427 _ (by rw [if_pos q69])
  intro z hz
  subst hz
  refine g_putiN (pc := 456) (dd d_Mod_advance_3 47 rfl) f_Mod_260 fm_Mod_13 ob_MO rfl (fun I71 hI71 => ?_)
  replace h := lt_e h hI71
  refine g_drop [0, 2, 3] ?_
  exact gb_Mod_advance_459 hX hk hT  h
def l_Mod_advance_2 (n : Nat) (J : JM)  : Nat → Int32 → IM → Option (IM)
  | 0, _, _ => none
  | f + 1, x1, I => if x1 = 0 then (lt (up I MO 12 (I MO 13)) fun I2 => Option.bind (f_Mod_sign  (I2 MO 13) I2) fun v3 => Option.bind (f_Mod_in  v3 97 122 I2) fun v5 => if v5 = 0 then (Option.bind (f_Mod_in  v3 48 57 I2) fun v8 => if v8 = 0 then (Option.bind (f_Mod_sign  ((I2 MO 13) + 1) I2) fun v11 => if (if v11 = (61 : Int32) then (if v3 = (61 : Int32) then 1 else (if v3 = (33 : Int32) then 1 else (if v3 = (60 : Int32) then 1 else 0))) else 0 : Int32) = 0 then (if v3 = 0 then (b_Mod_advance_422 n J  v3 (if v11 = (61 : Int32) then (if v3 = (61 : Int32) then 1 else (if v3 = (33 : Int32) then 1 else (if v3 = (60 : Int32) then 1 else 0))) else 0) 199 I2) else (Option.bind (f_Mod_isSign  v3 I2) fun v19 => lt (up I2 MO 10 (if v19 = 0 then 201 else ((v3) + (400)))) fun I22 => lt (up I22 MO 13 (if v3 = 0 then (I22 MO 13) else (if (if v11 = (61 : Int32) then (if v3 = (61 : Int32) then 1 else (if v3 = (33 : Int32) then 1 else (if v3 = (60 : Int32) then 1 else 0))) else 0 : Int32) = 0 then ((I22 MO 13) + (1)) else ((I22 MO 13) + (2))))) fun I25 => b_Mod_advance_459 n J  I25)) else (lt (up I2 MO 10 (if v3 = (61 : Int32) then 202 else (if v3 = (33 : Int32) then 203 else 204))) fun I28 => lt (up I28 MO 13 (if v3 = 0 then (I28 MO 13) else (if (if v11 = (61 : Int32) then (if v3 = (61 : Int32) then 1 else (if v3 = (33 : Int32) then 1 else (if v3 = (60 : Int32) then 1 else 0))) else 0 : Int32) = 0 then ((I28 MO 13) + (1)) else ((I28 MO 13) + (2))))) fun I31 => b_Mod_advance_459 n J  I31)) else (lt (up I2 MO 11 (0)) fun I32 => l_Mod_advance_215 n J  n I32)) else (l_Mod_advance_149 n J  n I2)) else (Option.bind (f_Mod_sign  (I MO 13) I) fun v33 => l_Mod_advance_51 n J (l_Mod_advance_2 n J  f) n (if v33 = (32 : Int32) then 1 else (if v33 = (10 : Int32) then 1 else (if v33 = (35 : Int32) then 1 else 0))) (if v33 = (35 : Int32) then 1 else 0) I)
set_option maxRecDepth 20000 in
set_option maxHeartbeats 4000000 in
theorem gl_Mod_advance_2 {Δ : Dx} {X : Lx} (hX : MX Δ X)   {n : Nat} {Γ : Cx} (hk : Γ.k = 2) {r : IM} (hT : Tg Δ Γ none NN (r, X) 0 0)  : ∀ (f : Nat) (x1 : Int32) (I : IM), l_Mod_advance_2 n X.1  f x1 I = some r → GG Δ m_Mod_advance Γ NN 0 0 (I, X) 2 [some (.ref (Δ.ba + MO)), some (.int (x1)), none, none] []
  | 0, _, _, h => by cases h
  | f + 1, x1, I, h => by
    have ih := gl_Mod_advance_2 (n := n) hX hk hT  f
    rw [l_Mod_advance_2] at h
    refine g_iload_n (pc := 2) (dd d_Mod_advance 2 rfl) rfl ?_
    refine g_ifeq (pc := 3) (tgt := 121) (dd d_Mod_advance 3 rfl) (by decide) (fun q1 => ?_) (fun q1 => ?_)
    · replace h := ite_t h q1
      refine g_aload_n (pc := 121) (dd d_Mod_advance_1 4 rfl) rfl ?_
      refine g_aload_n (pc := 122) (dd d_Mod_advance_1 5 rfl) rfl ?_
      refine g_geti (pc := 123) (dd d_Mod_advance_1 6 rfl) f_Mod_260 ob_MO rfl ?_
      refine g_putiN (pc := 126) (dd d_Mod_advance_1 7 rfl) f_Mod_263 fm_Mod_12 ob_MO rfl (fun I2 hI2 => ?_)
      replace h := lt_e h hI2
      refine g_aload_n (pc := 129) (dd d_Mod_advance_1 8 rfl) rfl ?_
      refine g_aload_n (pc := 130) (dd d_Mod_advance_1 9 rfl) rfl ?_
      refine g_geti (pc := 131) (dd d_Mod_advance_1 10 rfl) f_Mod_260 ob_MO rfl ?_
      obtain ⟨v3, e4, h⟩ := bnd_e h
      refine g_callV (pc := 134) (dd d_Mod_advance_1 11 rfl) v_Mod_254 ob_MO rfl (ef_Mod_sign hX e4) rfl (by rw [hk]; decide) (Nat.le_of_ble_eq_true rfl) ⟨Nat.zero_le _, Nat.zero_le _⟩ rfl ?_
      refine g_istore_n (pc := 137) (dd d_Mod_advance_1 12 rfl) (by decide) ?_
      refine g_iload_n (pc := 138) (dd d_Mod_advance_1 13 rfl) rfl ?_
      refine g_bipush (pc := 139) (v := 97) (dd d_Mod_advance_1 14 rfl) (by decide) ?_
      refine g_bipush (pc := 141) (v := 122) (dd d_Mod_advance_1 15 rfl) (by decide) ?_
      obtain ⟨v5, e6, h⟩ := bnd_e h
      refine g_callS (pc := 143) (dd d_Mod_advance_1 16 rfl) s_Mod_243 (ef_Mod_in hX e6) rfl (by rw [hk]; decide) (Nat.le_of_ble_eq_true rfl) ⟨Nat.zero_le _, Nat.zero_le _⟩ rfl ?_
      refine g_ifeq (pc := 146) (tgt := 199) (dd d_Mod_advance_1 17 rfl) (by decide) (fun q7 => ?_) (fun q7 => ?_)
      · replace h := ite_t h q7
        refine g_iload_n (pc := 199) (dd d_Mod_advance_1 42 rfl) rfl ?_
        refine g_bipush (pc := 200) (v := 48) (dd d_Mod_advance_1 43 rfl) (by decide) ?_
        refine g_bipush (pc := 202) (v := 57) (dd d_Mod_advance_1 44 rfl) (by decide) ?_
        obtain ⟨v8, e9, h⟩ := bnd_e h
        refine g_callS (pc := 204) (dd d_Mod_advance_1 45 rfl) s_Mod_243 (ef_Mod_in hX e9) rfl (by rw [hk]; decide) (Nat.le_of_ble_eq_true rfl) ⟨Nat.zero_le _, Nat.zero_le _⟩ rfl ?_
        refine g_ifeq (pc := 207) (tgt := 320) (dd d_Mod_advance_1 46 rfl) (by decide) (fun q10 => ?_) (fun q10 => ?_)
        · replace h := ite_t h q10
          refine g_aload_n (pc := 320) (dd d_Mod_advance_2 41 rfl) rfl ?_
          refine g_aload_n (pc := 321) (dd d_Mod_advance_2 42 rfl) rfl ?_
          refine g_geti (pc := 322) (dd d_Mod_advance_2 43 rfl) f_Mod_260 ob_MO rfl ?_
          refine g_iconst (pc := 325) (v := 1) (dd d_Mod_advance_2 44 rfl) (by decide) ?_
          refine g_iadd (pc := 326) (dd d_Mod_advance_2 45 rfl) ?_
          obtain ⟨v11, e12, h⟩ := bnd_e h
          refine g_callV (pc := 327) (dd d_Mod_advance_2 46 rfl) v_Mod_254 ob_MO rfl (ef_Mod_sign hX e12) rfl (by rw [hk]; decide) (Nat.le_of_ble_eq_true rfl) ⟨Nat.zero_le _, Nat.zero_le _⟩ rfl ?_
          refine g_bipush (pc := 330) (v := 61) (dd d_Mod_advance_2 47 rfl) (by decide) ?_
          suffices K332 : ∀ z : Int32, z = (if v11 = (61 : Int32) then (if v3 = (61 : Int32) then 1 else (if v3 = (33 : Int32) then 1 else (if v3 = (60 : Int32) then 1 else 0))) else 0 : Int32) → GG Δ m_Mod_advance Γ NN 0 0 (I2, X) 358 [some (.ref (Δ.ba + MO)), some (.int (x1)), some (.int (v3)), none] [.int (z)] by
            refine g_icmpne (pc := 332) (tgt := 357) (dd d_Mod_advance_2 48 rfl) (by decide) (fun q13 => ?_) (fun q13 => ?_)
            · skip
              refine g_iconst (pc := 357) (v := 0) (dd d_Mod_advance_3 0 rfl) (by decide) ?_
              exact K332 _ (by rw [if_neg q13])
            · skip
              refine g_iload_n (pc := 335) (dd d_Mod_advance_2 49 rfl) rfl ?_
              refine g_bipush (pc := 336) (v := 61) (dd d_Mod_advance_2 50 rfl) (by decide) ?_
              refine g_icmpeq (pc := 338) (tgt := 353) (dd d_Mod_advance_2 51 rfl) (by decide) (fun q14 => ?_) (fun q14 => ?_)
              · skip
                refine g_iconst (pc := 353) (v := 1) (dd d_Mod_advance_2 58 rfl) (by decide) ?_
                refine g_goto (pc := 354) (tgt := 358) (dd d_Mod_advance_2 59 rfl) (by decide) ?_
                exact K332 _ (by rw [if_pos q13, if_pos q14])
              · skip
                refine g_iload_n (pc := 341) (dd d_Mod_advance_2 52 rfl) rfl ?_
                refine g_bipush (pc := 342) (v := 33) (dd d_Mod_advance_2 53 rfl) (by decide) ?_
                refine g_icmpeq (pc := 344) (tgt := 353) (dd d_Mod_advance_2 54 rfl) (by decide) (fun q15 => ?_) (fun q15 => ?_)
                · skip
                  refine g_iconst (pc := 353) (v := 1) (dd d_Mod_advance_2 58 rfl) (by decide) ?_
                  refine g_goto (pc := 354) (tgt := 358) (dd d_Mod_advance_2 59 rfl) (by decide) ?_
                  exact K332 _ (by rw [if_pos q13, if_neg q14, if_pos q15])
                · skip
                  refine g_iload_n (pc := 347) (dd d_Mod_advance_2 55 rfl) rfl ?_
                  refine g_bipush (pc := 348) (v := 60) (dd d_Mod_advance_2 56 rfl) (by decide) ?_
                  refine g_icmpne (pc := 350) (tgt := 357) (dd d_Mod_advance_2 57 rfl) (by decide) (fun q16 => ?_) (fun q16 => ?_)
                  · skip
                    refine g_iconst (pc := 357) (v := 0) (dd d_Mod_advance_3 0 rfl) (by decide) ?_
                    exact K332 _ (by rw [if_pos q13, if_neg q14, if_neg q15, if_neg q16])
                  · skip
                    refine g_iconst (pc := 353) (v := 1) (dd d_Mod_advance_2 58 rfl) (by decide) ?_
                    refine g_goto (pc := 354) (tgt := 358) (dd d_Mod_advance_2 59 rfl) (by decide) ?_
                    exact K332 _ (by rw [if_pos q13, if_neg q14, if_neg q15, if_pos q16])
          intro z hz
          subst hz
          refine g_istore_n (pc := 358) (dd d_Mod_advance_3 1 rfl) (by decide) ?_
          refine g_aload_n (pc := 359) (dd d_Mod_advance_3 2 rfl) rfl ?_
          refine g_iload_n (pc := 360) (dd d_Mod_advance_3 3 rfl) rfl ?_
          refine g_ifeq (pc := 361) (tgt := 394) (dd d_Mod_advance_3 4 rfl) (by decide) (fun q17 => ?_) (fun q17 => ?_)
          · replace h := ite_t h q17
            refine g_iload_n (pc := 394) (dd d_Mod_advance_3 17 rfl) rfl ?_
            refine g_ifne (pc := 395) (tgt := 404) (dd d_Mod_advance_3 18 rfl) (by decide) (fun q18 => ?_) (fun q18 => ?_)
            · replace h := ite_f h q18
              refine g_iload_n (pc := 404) (dd d_Mod_advance_3 21 rfl) rfl ?_
              obtain ⟨v19, e20, h⟩ := bnd_e h
              refine g_callS (pc := 405) (dd d_Mod_advance_3 22 rfl) s_Mod_276 (ef_Mod_isSign hX e20) rfl (by rw [hk]; decide) (Nat.le_of_ble_eq_true rfl) ⟨Nat.zero_le _, Nat.zero_le _⟩ rfl ?_
              suffices K408 : ∀ z : Int32, z = (if v19 = 0 then 201 else ((v3) + (400)) : Int32) → GG Δ m_Mod_advance Γ NN 0 0 (I2, X) 422 [some (.ref (Δ.ba + MO)), some (.int (x1)), some (.int (v3)), some (.int (if v11 = (61 : Int32) then (if v3 = (61 : Int32) then 1 else (if v3 = (33 : Int32) then 1 else (if v3 = (60 : Int32) then 1 else 0))) else 0))] [.int (z), .ref (Δ.ba + MO)] by
                refine g_ifeq (pc := 408) (tgt := 419) (dd d_Mod_advance_3 23 rfl) (by decide) (fun q21 => ?_) (fun q21 => ?_)
                · skip
                  refine g_sipush (pc := 419) (v := 201) (dd d_Mod_advance_3 28 rfl) (by decide) ?_
                  exact K408 _ (by rw [if_pos q21])
                · skip
                  refine g_iload_n (pc := 411) (dd d_Mod_advance_3 24 rfl) rfl ?_
                  refine g_sipush (pc := 412) (v := 400) (dd d_Mod_advance_3 25 rfl) (by decide) ?_
                  refine g_iadd (pc := 415) (dd d_Mod_advance_3 26 rfl) ?_
                  refine g_goto (pc := 416) (tgt := 422) (dd d_Mod_advance_3 27 rfl) (by decide) ?_
                  exact K408 _ (by rw [if_neg q21])
              intro z hz
              subst hz
              refine g_putiN (pc := 422) (dd d_Mod_advance_3 29 rfl) f_Mod_270 fm_Mod_10 ob_MO rfl (fun I22 hI22 => ?_)
              replace h := lt_e h hI22
              refine g_aload_n (pc := 425) (dd d_Mod_advance_3 30 rfl) rfl ?_
              refine g_iload_n (pc := 426) (dd d_Mod_advance_3 31 rfl) rfl ?_
              suffices K427 : ∀ z : Int32, z = (if v3 = 0 then (I22 MO 13) else (if (if v11 = (61 : Int32) then (if v3 = (61 : Int32) then 1 else (if v3 = (33 : Int32) then 1 else (if v3 = (60 : Int32) then 1 else 0))) else 0 : Int32) = 0 then ((I22 MO 13) + (1)) else ((I22 MO 13) + (2))) : Int32) → GG Δ m_Mod_advance Γ NN 0 0 (I22, X) 456 [some (.ref (Δ.ba + MO)), some (.int (x1)), some (.int (v3)), some (.int (if v11 = (61 : Int32) then (if v3 = (61 : Int32) then 1 else (if v3 = (33 : Int32) then 1 else (if v3 = (60 : Int32) then 1 else 0))) else 0))] [.int (z), .ref (Δ.ba + MO)] by
                refine g_ifne (pc := 427) (tgt := 437) (dd d_Mod_advance_3 32 rfl) (by decide) (fun q23 => ?_) (fun q23 => ?_)
                · skip
                  refine g_iload_n (pc := 437) (dd d_Mod_advance_3 36 rfl) rfl ?_
                  refine g_ifeq (pc := 438) (tgt := 450) (dd d_Mod_advance_3 37 rfl) (by decide) (fun q24 => ?_) (fun q24 => ?_)
                  · skip
                    refine g_aload_n (pc := 450) (dd d_Mod_advance_3 43 rfl) rfl ?_
                    refine g_geti (pc := 451) (dd d_Mod_advance_3 44 rfl) f_Mod_260 ob_MO rfl ?_
                    refine g_iconst (pc := 454) (v := 1) (dd d_Mod_advance_3 45 rfl) (by decide) ?_
                    refine g_iadd (pc := 455) (dd d_Mod_advance_3 46 rfl) ?_
                    exact K427 _ (by rw [if_neg q23, if_pos q24])
                  · skip
                    refine g_aload_n (pc := 441) (dd d_Mod_advance_3 38 rfl) rfl ?_
                    refine g_geti (pc := 442) (dd d_Mod_advance_3 39 rfl) f_Mod_260 ob_MO rfl ?_
                    refine g_iconst (pc := 445) (v := 2) (dd d_Mod_advance_3 40 rfl) (by decide) ?_
                    refine g_iadd (pc := 446) (dd d_Mod_advance_3 41 rfl) ?_
                    refine g_goto (pc := 447) (tgt := 456) (dd d_Mod_advance_3 42 rfl) (by decide) ?_
                    exact K427 _ (by rw [if_neg q23, if_neg q24])
                · skip
                  refine g_aload_n (pc := 430) (dd d_Mod_advance_3 33 rfl) rfl ?_
                  refine g_geti (pc := 431) (dd d_Mod_advance_3 34 rfl) f_Mod_260 ob_MO rfl ?_
                  refine g_goto (pc := 434) (tgt := 456) (dd d_Mod_advance_3 35 rfl) (by decide) ?_
                  exact K427 _ (by rw [if_pos q23])
              intro z hz
              subst hz
              refine g_putiN (pc := 456) (dd d_Mod_advance_3 47 rfl) f_Mod_260 fm_Mod_13 ob_MO rfl (fun I25 hI25 => ?_)
              replace h := lt_e h hI25
              refine g_drop [0, 1, 2, 3] ?_
              exact gb_Mod_advance_459 hX hk hT  h
            · replace h := ite_t h q18
              refine g_sipush (pc := 398) (v := 199) (dd d_Mod_advance_3 19 rfl) (by decide) ?_
              refine g_goto (pc := 401) (tgt := 422) (dd d_Mod_advance_3 20 rfl) (by decide) ?_
              refine g_drop [1] ?_
              exact gb_Mod_advance_422 hX hk hT  h
          · replace h := ite_f h q17
            refine g_iload_n (pc := 364) (dd d_Mod_advance_3 5 rfl) rfl ?_
            refine g_bipush (pc := 365) (v := 61) (dd d_Mod_advance_3 6 rfl) (by decide) ?_
            suffices K367 : ∀ z : Int32, z = (if v3 = (61 : Int32) then 202 else (if v3 = (33 : Int32) then 203 else 204) : Int32) → GG Δ m_Mod_advance Γ NN 0 0 (I2, X) 422 [some (.ref (Δ.ba + MO)), some (.int (x1)), some (.int (v3)), some (.int (if v11 = (61 : Int32) then (if v3 = (61 : Int32) then 1 else (if v3 = (33 : Int32) then 1 else (if v3 = (60 : Int32) then 1 else 0))) else 0))] [.int (z), .ref (Δ.ba + MO)] by
              refine g_icmpne (pc := 367) (tgt := 376) (dd d_Mod_advance_3 7 rfl) (by decide) (fun q26 => ?_) (fun q26 => ?_)
              · skip
                refine g_iload_n (pc := 376) (dd d_Mod_advance_3 10 rfl) rfl ?_
                refine g_bipush (pc := 377) (v := 33) (dd d_Mod_advance_3 11 rfl) (by decide) ?_
                refine g_icmpne (pc := 379) (tgt := 388) (dd d_Mod_advance_3 12 rfl) (by decide) (fun q27 => ?_) (fun q27 => ?_)
                · skip
                  refine g_sipush (pc := 388) (v := 204) (dd d_Mod_advance_3 15 rfl) (by decide) ?_
                  refine g_goto (pc := 391) (tgt := 422) (dd d_Mod_advance_3 16 rfl) (by decide) ?_
                  exact K367 _ (by rw [if_neg q26, if_neg q27])
                · skip
                  refine g_sipush (pc := 382) (v := 203) (dd d_Mod_advance_3 13 rfl) (by decide) ?_
                  refine g_goto (pc := 385) (tgt := 422) (dd d_Mod_advance_3 14 rfl) (by decide) ?_
                  exact K367 _ (by rw [if_neg q26, if_pos q27])
              · skip
                refine g_sipush (pc := 370) (v := 202) (dd d_Mod_advance_3 8 rfl) (by decide) ?_
                refine g_goto (pc := 373) (tgt := 422) (dd d_Mod_advance_3 9 rfl) (by decide) ?_
                exact K367 _ (by rw [if_pos q26])
            intro z hz
            subst hz
            refine g_putiN (pc := 422) (dd d_Mod_advance_3 29 rfl) f_Mod_270 fm_Mod_10 ob_MO rfl (fun I28 hI28 => ?_)
            replace h := lt_e h hI28
            refine g_aload_n (pc := 425) (dd d_Mod_advance_3 30 rfl) rfl ?_
            refine g_iload_n (pc := 426) (dd d_Mod_advance_3 31 rfl) rfl ?_
            suffices K427 : ∀ z : Int32, z = (if v3 = 0 then (I28 MO 13) else (if (if v11 = (61 : Int32) then (if v3 = (61 : Int32) then 1 else (if v3 = (33 : Int32) then 1 else (if v3 = (60 : Int32) then 1 else 0))) else 0 : Int32) = 0 then ((I28 MO 13) + (1)) else ((I28 MO 13) + (2))) : Int32) → GG Δ m_Mod_advance Γ NN 0 0 (I28, X) 456 [some (.ref (Δ.ba + MO)), some (.int (x1)), some (.int (v3)), some (.int (if v11 = (61 : Int32) then (if v3 = (61 : Int32) then 1 else (if v3 = (33 : Int32) then 1 else (if v3 = (60 : Int32) then 1 else 0))) else 0))] [.int (z), .ref (Δ.ba + MO)] by
              refine g_ifne (pc := 427) (tgt := 437) (dd d_Mod_advance_3 32 rfl) (by decide) (fun q29 => ?_) (fun q29 => ?_)
              · skip
                refine g_iload_n (pc := 437) (dd d_Mod_advance_3 36 rfl) rfl ?_
                refine g_ifeq (pc := 438) (tgt := 450) (dd d_Mod_advance_3 37 rfl) (by decide) (fun q30 => ?_) (fun q30 => ?_)
                · skip
                  refine g_aload_n (pc := 450) (dd d_Mod_advance_3 43 rfl) rfl ?_
                  refine g_geti (pc := 451) (dd d_Mod_advance_3 44 rfl) f_Mod_260 ob_MO rfl ?_
                  refine g_iconst (pc := 454) (v := 1) (dd d_Mod_advance_3 45 rfl) (by decide) ?_
                  refine g_iadd (pc := 455) (dd d_Mod_advance_3 46 rfl) ?_
                  exact K427 _ (by rw [if_neg q29, if_pos q30])
                · skip
                  refine g_aload_n (pc := 441) (dd d_Mod_advance_3 38 rfl) rfl ?_
                  refine g_geti (pc := 442) (dd d_Mod_advance_3 39 rfl) f_Mod_260 ob_MO rfl ?_
                  refine g_iconst (pc := 445) (v := 2) (dd d_Mod_advance_3 40 rfl) (by decide) ?_
                  refine g_iadd (pc := 446) (dd d_Mod_advance_3 41 rfl) ?_
                  refine g_goto (pc := 447) (tgt := 456) (dd d_Mod_advance_3 42 rfl) (by decide) ?_
                  exact K427 _ (by rw [if_neg q29, if_neg q30])
              · skip
                refine g_aload_n (pc := 430) (dd d_Mod_advance_3 33 rfl) rfl ?_
                refine g_geti (pc := 431) (dd d_Mod_advance_3 34 rfl) f_Mod_260 ob_MO rfl ?_
                refine g_goto (pc := 434) (tgt := 456) (dd d_Mod_advance_3 35 rfl) (by decide) ?_
                exact K427 _ (by rw [if_pos q29])
            intro z hz
            subst hz
            refine g_putiN (pc := 456) (dd d_Mod_advance_3 47 rfl) f_Mod_260 fm_Mod_13 ob_MO rfl (fun I31 hI31 => ?_)
            replace h := lt_e h hI31
            refine g_drop [0, 1, 2, 3] ?_
            exact gb_Mod_advance_459 hX hk hT  h
        · replace h := ite_f h q10
          refine g_aload_n (pc := 210) (dd d_Mod_advance_1 47 rfl) rfl ?_
          refine g_iconst (pc := 211) (v := 0) (dd d_Mod_advance_1 48 rfl) (by decide) ?_
          refine g_putiN (pc := 212) (dd d_Mod_advance_1 49 rfl) f_Mod_273 fm_Mod_11 ob_MO rfl (fun I32 hI32 => ?_)
          replace h := lt_e h hI32
          refine g_drop [1, 2] ?_
          exact gl_Mod_advance_215 hX hk hT  _ _ h
      · replace h := ite_f h q7
        refine g_drop [1, 2] ?_
        exact gl_Mod_advance_149 hX hk hT  _ _ h
    · replace h := ite_f h q1
      refine g_aload_n (pc := 6) (dd d_Mod_advance 4 rfl) rfl ?_
      refine g_aload_n (pc := 7) (dd d_Mod_advance 5 rfl) rfl ?_
      refine g_geti (pc := 8) (dd d_Mod_advance 6 rfl) f_Mod_260 ob_MO rfl ?_
      obtain ⟨v33, e34, h⟩ := bnd_e h
      refine g_callV (pc := 11) (dd d_Mod_advance 7 rfl) v_Mod_254 ob_MO rfl (ef_Mod_sign hX e34) rfl (by rw [hk]; decide) (Nat.le_of_ble_eq_true rfl) ⟨Nat.zero_le _, Nat.zero_le _⟩ rfl ?_
      refine g_istore_n (pc := 14) (dd d_Mod_advance 8 rfl) (by decide) ?_
      refine g_iload_n (pc := 15) (dd d_Mod_advance 9 rfl) rfl ?_
      refine g_bipush (pc := 16) (v := 32) (dd d_Mod_advance 10 rfl) (by decide) ?_
      suffices K18 : ∀ z : Int32, z = (if v33 = (32 : Int32) then 1 else (if v33 = (10 : Int32) then 1 else (if v33 = (35 : Int32) then 1 else 0)) : Int32) → GG Δ m_Mod_advance Γ NN 0 0 (I, X) 38 [some (.ref (Δ.ba + MO)), some (.int (x1)), some (.int (v33)), none] [.int (z)] by
        refine g_icmpeq (pc := 18) (tgt := 33) (dd d_Mod_advance 11 rfl) (by decide) (fun q35 => ?_) (fun q35 => ?_)
        · skip
          refine g_iconst (pc := 33) (v := 1) (dd d_Mod_advance 18 rfl) (by decide) ?_
          refine g_goto (pc := 34) (tgt := 38) (dd d_Mod_advance 19 rfl) (by decide) ?_
          exact K18 _ (by rw [if_pos q35])
        · skip
          refine g_iload_n (pc := 21) (dd d_Mod_advance 12 rfl) rfl ?_
          refine g_bipush (pc := 22) (v := 10) (dd d_Mod_advance 13 rfl) (by decide) ?_
          refine g_icmpeq (pc := 24) (tgt := 33) (dd d_Mod_advance 14 rfl) (by decide) (fun q36 => ?_) (fun q36 => ?_)
          · skip
            refine g_iconst (pc := 33) (v := 1) (dd d_Mod_advance 18 rfl) (by decide) ?_
            refine g_goto (pc := 34) (tgt := 38) (dd d_Mod_advance 19 rfl) (by decide) ?_
            exact K18 _ (by rw [if_neg q35, if_pos q36])
          · skip
            refine g_iload_n (pc := 27) (dd d_Mod_advance 15 rfl) rfl ?_
            refine g_bipush (pc := 28) (v := 35) (dd d_Mod_advance 16 rfl) (by decide) ?_
            refine g_icmpne (pc := 30) (tgt := 37) (dd d_Mod_advance 17 rfl) (by decide) (fun q37 => ?_) (fun q37 => ?_)
            · skip
              refine g_iconst (pc := 37) (v := 0) (dd d_Mod_advance 20 rfl) (by decide) ?_
              exact K18 _ (by rw [if_neg q35, if_neg q36, if_neg q37])
            · skip
              refine g_iconst (pc := 33) (v := 1) (dd d_Mod_advance 18 rfl) (by decide) ?_
              refine g_goto (pc := 34) (tgt := 38) (dd d_Mod_advance 19 rfl) (by decide) ?_
              exact K18 _ (by rw [if_neg q35, if_neg q36, if_pos q37])
      intro z hz
      subst hz
      refine g_istore_n (pc := 38) (dd d_Mod_advance 21 rfl) (by decide) ?_
      refine g_iload_n (pc := 39) (dd d_Mod_advance 22 rfl) rfl ?_
      refine g_bipush (pc := 40) (v := 35) (dd d_Mod_advance 23 rfl) (by decide) ?_
      suffices K42 : ∀ z : Int32, z = (if v33 = (35 : Int32) then 1 else 0 : Int32) → GG Δ m_Mod_advance Γ NN 0 0 (I, X) 50 [some (.ref (Δ.ba + MO)), some (.int (if v33 = (32 : Int32) then 1 else (if v33 = (10 : Int32) then 1 else (if v33 = (35 : Int32) then 1 else 0)))), some (.int (v33)), none] [.int (z)] by
        refine g_icmpne (pc := 42) (tgt := 49) (dd d_Mod_advance 24 rfl) (by decide) (fun q38 => ?_) (fun q38 => ?_)
        · skip
          refine g_iconst (pc := 49) (v := 0) (dd d_Mod_advance 27 rfl) (by decide) ?_
          exact K42 _ (by rw [if_neg q38])
        · skip
          refine g_iconst (pc := 45) (v := 1) (dd d_Mod_advance 25 rfl) (by decide) ?_
          refine g_goto (pc := 46) (tgt := 50) (dd d_Mod_advance 26 rfl) (by decide) ?_
          exact K42 _ (by rw [if_pos q38])
      intro z hz
      subst hz
      refine g_istore_n (pc := 50) (dd d_Mod_advance 28 rfl) (by decide) ?_
      refine g_drop [2] ?_
      exact gl_Mod_advance_51 hX hk hT ih _ _ _ _ h
def f_Mod_advance (n : Nat) (J : JM) (I : IM) : Option (IM) := l_Mod_advance_2 n J  n 1 I
set_option maxRecDepth 20000 in
set_option maxHeartbeats 4000000 in
theorem ef_Mod_advance {Δ : Dx} {X : Lx} (hX : MX Δ X) {n : Nat}  {I : IM}  {r : IM} (h : f_Mod_advance n X.1 I = some r) : Ev Δ 2 m_Mod_advance [.ref (Δ.ba + MO)] (I, X) none (r, X) := by
  refine ev_of (by decide) (Nat.le_of_ble_eq_true rfl) (fun Γ hk hR hT => ?_)
  change GG Δ m_Mod_advance Γ NN 0 0 (I, X) 0 [some (.ref (Δ.ba + MO)), none, none, none] []
  unfold f_Mod_advance at h
  refine g_iconst (pc := 0) (v := 1) (dd d_Mod_advance 0 rfl) (by decide) ?_
  refine g_istore_n (pc := 1) (dd d_Mod_advance 1 rfl) (by decide) ?_
  exact gl_Mod_advance_2 hX hk hT  _ _ _ h
def f_Mod_is (x1 : Int32) (I : IM) : Option (Int32) := some (if (I MO 10 : Int32) = (400 + x1 : Int32) then 1 else 0)
set_option maxRecDepth 20000 in
set_option maxHeartbeats 4000000 in
theorem ef_Mod_is {Δ : Dx} {X : Lx} (hX : MX Δ X) {x1 : Int32}  {I : IM}  {r : Int32} (h : f_Mod_is x1 I = some r) : Ev Δ 0 m_Mod_is [.ref (Δ.ba + MO), .int x1] (I, X) (some (.int r)) (I, X) := by
  refine ev_of (by decide) (Nat.le_of_ble_eq_true rfl) (fun Γ hk hR hT => ?_)
  change GG Δ m_Mod_is Γ NN 0 0 (I, X) 0 [some (.ref (Δ.ba + MO)), some (.int (x1))] []
  unfold f_Mod_is at h
  refine g_aload_n (pc := 0) (dd d_Mod_is 0 rfl) rfl ?_
  refine g_geti (pc := 1) (dd d_Mod_is 1 rfl) f_Mod_270 ob_MO rfl ?_
  refine g_sipush (pc := 4) (v := 400) (dd d_Mod_is 2 rfl) (by decide) ?_
  refine g_iload_n (pc := 7) (dd d_Mod_is 3 rfl) rfl ?_
  refine g_iadd (pc := 8) (dd d_Mod_is 4 rfl) ?_
  suffices K9 : ∀ z : Int32, z = (if (I MO 10 : Int32) = (400 + x1 : Int32) then 1 else 0 : Int32) → GG Δ m_Mod_is Γ NN 0 0 (I, X) 17 [some (.ref (Δ.ba + MO)), some (.int (x1))] [.int (z)] by
    refine g_icmpne (pc := 9) (tgt := 16) (dd d_Mod_is 5 rfl) (by decide) (fun q1 => ?_) (fun q1 => ?_)
    · skip
      refine g_iconst (pc := 16) (v := 0) (dd d_Mod_is 8 rfl) (by decide) ?_
      exact K9 _ (by rw [if_neg q1])
    · skip
      refine g_iconst (pc := 12) (v := 1) (dd d_Mod_is 6 rfl) (by decide) ?_
      refine g_goto (pc := 13) (tgt := 17) (dd d_Mod_is 7 rfl) (by decide) ?_
      exact K9 _ (by rw [if_pos q1])
  intro z hz
  subst hz
  cases h
  exact g_zret (pc := 17) rfl (by (repeat' split) <;> first | exact Or.inl rfl | exact Or.inr rfl) (dd d_Mod_is 9 rfl) hT
def f_Mod_fail  (I : IM) : Option (IM) := lt (up I MO 14 (if 0 ≤ (I MO 14 : Int32) then (I MO 14) else (I MO 12))) fun I2 => some I2
set_option maxRecDepth 20000 in
set_option maxHeartbeats 4000000 in
theorem ef_Mod_fail {Δ : Dx} {X : Lx} (hX : MX Δ X)   {I : IM}  {r : IM} (h : f_Mod_fail  I = some r) : Ev Δ 0 m_Mod_fail [.ref (Δ.ba + MO)] (I, X) none (r, X) := by
  refine ev_of (by decide) (Nat.le_of_ble_eq_true rfl) (fun Γ hk hR hT => ?_)
  change GG Δ m_Mod_fail Γ NN 0 0 (I, X) 0 [some (.ref (Δ.ba + MO))] []
  unfold f_Mod_fail at h
  refine g_aload_n (pc := 0) (dd d_Mod_fail 0 rfl) rfl ?_
  refine g_aload_n (pc := 1) (dd d_Mod_fail 1 rfl) rfl ?_
  refine g_geti (pc := 2) (dd d_Mod_fail 2 rfl) f_Mod_280 ob_MO rfl ?_
  suffices K5 : ∀ z : Int32, z = (if 0 ≤ (I MO 14 : Int32) then (I MO 14) else (I MO 12) : Int32) → GG Δ m_Mod_fail Γ NN 0 0 (I, X) 19 [some (.ref (Δ.ba + MO))] [.int (z), .ref (Δ.ba + MO)] by
    refine g_ifge (pc := 5) (tgt := 15) (dd d_Mod_fail 3 rfl) (by decide) (fun q1 => ?_) (fun q1 => ?_)
    · skip
      refine g_aload_n (pc := 15) (dd d_Mod_fail 7 rfl) rfl ?_
      refine g_geti (pc := 16) (dd d_Mod_fail 8 rfl) f_Mod_280 ob_MO rfl ?_
      exact K5 _ (by rw [if_pos q1])
    · skip
      refine g_aload_n (pc := 8) (dd d_Mod_fail 4 rfl) rfl ?_
      refine g_geti (pc := 9) (dd d_Mod_fail 5 rfl) f_Mod_263 ob_MO rfl ?_
      refine g_goto (pc := 12) (tgt := 19) (dd d_Mod_fail 6 rfl) (by decide) ?_
      exact K5 _ (by rw [if_neg q1])
  intro z hz
  subst hz
  refine g_putiN (pc := 19) (dd d_Mod_fail 9 rfl) f_Mod_280 fm_Mod_14 ob_MO rfl (fun I2 hI2 => ?_)
  replace h := lt_e h hI2
  cases h
  exact g_vret (pc := 22) rfl (dd d_Mod_fail 10 rfl) hT
def b_Mod_need_30 (n : Nat) (J : JM)   (I : IM) : Option (IM) := some I
set_option maxRecDepth 20000 in
set_option maxHeartbeats 4000000 in
theorem gb_Mod_need_30 {Δ : Dx} {X : Lx} (hX : MX Δ X)   {n : Nat} {Γ : Cx} (hk : Γ.k = 3) {r : IM} (hT : Tg Δ Γ none NN (r, X) 0 0)   {I : IM} (h : b_Mod_need_30 n X.1   I = some r) : GG Δ m_Mod_need Γ NN 0 0 (I, X) 30 [none, none] [] := by
  unfold b_Mod_need_30 at h
  cases h
  exact g_vret (pc := 30) rfl (dd d_Mod_need 14 rfl) hT
def b_Mod_need_19 (n : Nat) (J : JM)   (I : IM) : Option (IM) := if 0 ≤ (I MO 14 : Int32) then (b_Mod_need_30 n J  I) else (Option.bind (f_Mod_advance n J I) fun v8 => b_Mod_need_30 n J  v8)
set_option maxRecDepth 20000 in
set_option maxHeartbeats 4000000 in
theorem gb_Mod_need_19 {Δ : Dx} {X : Lx} (hX : MX Δ X)   {n : Nat} {Γ : Cx} (hk : Γ.k = 3) {r : IM} (hT : Tg Δ Γ none NN (r, X) 0 0)   {I : IM} (h : b_Mod_need_19 n X.1   I = some r) : GG Δ m_Mod_need Γ NN 0 0 (I, X) 19 [some (.ref (Δ.ba + MO)), none] [] := by
  unfold b_Mod_need_19 at h
  refine g_aload_n (pc := 19) (dd d_Mod_need 9 rfl) rfl ?_
  refine g_geti (pc := 20) (dd d_Mod_need 10 rfl) f_Mod_280 ob_MO rfl ?_
  refine g_ifge (pc := 23) (tgt := 30) (dd d_Mod_need 11 rfl) (by decide) (fun q7 => ?_) (fun q7 => ?_)
  · replace h := ite_t h q7
    refine g_drop [0] ?_
    exact gb_Mod_need_30 hX hk hT  h
  · replace h := ite_f h q7
    refine g_aload_n (pc := 26) (dd d_Mod_need 12 rfl) rfl ?_
    obtain ⟨v8, e9, h⟩ := bnd_e h
    refine g_callV (pc := 27) (dd d_Mod_need 13 rfl) v_Mod_289 ob_MO rfl (ef_Mod_advance hX e9) rfl (by rw [hk]; decide) (Nat.le_of_ble_eq_true rfl) ⟨Nat.zero_le _, Nat.zero_le _⟩ rfl ?_
    refine g_drop [0] ?_
    exact gb_Mod_need_30 hX hk hT  h
def f_Mod_need (n : Nat) (J : JM) (x1 : Int32) (I : IM) : Option (IM) := if 0 ≤ (I MO 14 : Int32) then (b_Mod_need_19 n J  I) else (Option.bind (f_Mod_is  x1 I) fun v2 => if v2 = 0 then (Option.bind (f_Mod_fail   I) fun v5 => b_Mod_need_19 n J  v5) else (b_Mod_need_19 n J  I))
set_option maxRecDepth 20000 in
set_option maxHeartbeats 4000000 in
theorem ef_Mod_need {Δ : Dx} {X : Lx} (hX : MX Δ X) {n : Nat} {x1 : Int32}  {I : IM}  {r : IM} (h : f_Mod_need n X.1 x1 I = some r) : Ev Δ 3 m_Mod_need [.ref (Δ.ba + MO), .int x1] (I, X) none (r, X) := by
  refine ev_of (by decide) (Nat.le_of_ble_eq_true rfl) (fun Γ hk hR hT => ?_)
  change GG Δ m_Mod_need Γ NN 0 0 (I, X) 0 [some (.ref (Δ.ba + MO)), some (.int (x1))] []
  unfold f_Mod_need at h
  refine g_aload_n (pc := 0) (dd d_Mod_need 0 rfl) rfl ?_
  refine g_geti (pc := 1) (dd d_Mod_need 1 rfl) f_Mod_280 ob_MO rfl ?_
  refine g_ifge (pc := 4) (tgt := 19) (dd d_Mod_need 2 rfl) (by decide) (fun q1 => ?_) (fun q1 => ?_)
  · replace h := ite_t h q1
    refine g_drop [1] ?_
    exact gb_Mod_need_19 hX hk hT  h
  · replace h := ite_f h q1
    refine g_aload_n (pc := 7) (dd d_Mod_need 3 rfl) rfl ?_
    refine g_iload_n (pc := 8) (dd d_Mod_need 4 rfl) rfl ?_
    obtain ⟨v2, e3, h⟩ := bnd_e h
    refine g_callV (pc := 9) (dd d_Mod_need 5 rfl) v_Mod_283 ob_MO rfl (ef_Mod_is hX e3) rfl (by rw [hk]; decide) (Nat.le_of_ble_eq_true rfl) ⟨Nat.zero_le _, Nat.zero_le _⟩ rfl ?_
    refine g_ifne (pc := 12) (tgt := 19) (dd d_Mod_need 6 rfl) (by decide) (fun q4 => ?_) (fun q4 => ?_)
    · replace h := ite_f h q4
      refine g_drop [1] ?_
      exact gb_Mod_need_19 hX hk hT  h
    · replace h := ite_t h q4
      refine g_aload_n (pc := 15) (dd d_Mod_need 7 rfl) rfl ?_
      obtain ⟨v5, e6, h⟩ := bnd_e h
      refine g_callV (pc := 16) (dd d_Mod_need 8 rfl) v_Mod_286 ob_MO rfl (ef_Mod_fail hX e6) rfl (by rw [hk]; decide) (Nat.le_of_ble_eq_true rfl) ⟨Nat.zero_le _, Nat.zero_le _⟩ rfl ?_
      refine g_drop [1] ?_
      exact gb_Mod_need_19 hX hk hT  h
def f_Mod_emit (x1 : Int32) (x2 : Int32) (I : IM) : Option (IM) := chk (inb (I MO 15) 2000) <| lt (up I A_code0 (I MO 15 : Int32).toNatClampNeg (x1)) fun I2 => chk (inb (I2 MO 15) 2000) <| lt (up I2 A_codeValue (I2 MO 15 : Int32).toNatClampNeg (x2)) fun I4 => lt (up I4 MO 15 ((I4 MO 15) + 1)) fun I5 => some I5
set_option maxRecDepth 20000 in
set_option maxHeartbeats 4000000 in
theorem ef_Mod_emit {Δ : Dx} {X : Lx} (hX : MX Δ X) {x1 : Int32} {x2 : Int32}  {I : IM}  {r : IM} (h : f_Mod_emit x1 x2 I = some r) : Ev Δ 0 m_Mod_emit [.ref (Δ.ba + MO), .int x1, .int x2] (I, X) none (r, X) := by
  refine ev_of (by decide) (Nat.le_of_ble_eq_true rfl) (fun Γ hk hR hT => ?_)
  change GG Δ m_Mod_emit Γ NN 0 0 (I, X) 0 [some (.ref (Δ.ba + MO)), some (.int (x1)), some (.int (x2))] []
  unfold f_Mod_emit at h
  refine g_aload_n (pc := 0) (dd d_Mod_emit 0 rfl) rfl ?_
  refine g_getr (pc := 1) (dd d_Mod_emit 1 rfl) f_Mod_20 ob_MO rfl (mr_code0 hX) ?_
  refine g_aload_n (pc := 4) (dd d_Mod_emit 2 rfl) rfl ?_
  refine g_geti (pc := 5) (dd d_Mod_emit 3 rfl) f_Mod_292 ob_MO rfl ?_
  refine g_iload_n (pc := 8) (dd d_Mod_emit 4 rfl) rfl ?_
  obtain ⟨c1, h⟩ := chk_e h
  refine g_iastN (pc := 9) (dd d_Mod_emit 5 rfl) ar_A_code0 c1 (fun I2 hI2 => ?_)
  replace h := lt_e h hI2
  refine g_aload_n (pc := 10) (dd d_Mod_emit 6 rfl) rfl ?_
  refine g_getr (pc := 11) (dd d_Mod_emit 7 rfl) f_Mod_23 ob_MO rfl (mr_codeValue hX) ?_
  refine g_aload_n (pc := 14) (dd d_Mod_emit 8 rfl) rfl ?_
  refine g_geti (pc := 15) (dd d_Mod_emit 9 rfl) f_Mod_292 ob_MO rfl ?_
  refine g_iload_n (pc := 18) (dd d_Mod_emit 10 rfl) rfl ?_
  obtain ⟨c3, h⟩ := chk_e h
  refine g_iastN (pc := 19) (dd d_Mod_emit 11 rfl) ar_A_codeValue c3 (fun I4 hI4 => ?_)
  replace h := lt_e h hI4
  refine g_aload_n (pc := 20) (dd d_Mod_emit 12 rfl) rfl ?_
  refine g_dup (pc := 21) (dd d_Mod_emit 13 rfl) rfl ?_
  refine g_geti (pc := 22) (dd d_Mod_emit 14 rfl) f_Mod_292 ob_MO rfl ?_
  refine g_iconst (pc := 25) (v := 1) (dd d_Mod_emit 15 rfl) (by decide) ?_
  refine g_iadd (pc := 26) (dd d_Mod_emit 16 rfl) ?_
  refine g_putiN (pc := 27) (dd d_Mod_emit 17 rfl) f_Mod_292 fm_Mod_15 ob_MO rfl (fun I5 hI5 => ?_)
  replace h := lt_e h hI5
  cases h
  exact g_vret (pc := 30) rfl (dd d_Mod_emit 18 rfl) hT
def b_Mod_push_18   (x1 : Int32) (x2 : Int32) (x3 : Int32) (I : IM) : Option (IM) := lt (up I MO 28 (if x3 = 0 then (I MO 28) else ((I MO 28) + (1)))) fun I6 => chk (inb (I6 MO 29) 1000) <| lt (up I6 A_pile (I6 MO 29 : Int32).toNatClampNeg (x1)) fun I8 => chk (inb (I8 MO 29) 1000) <| lt (up I8 A_pileAt (I8 MO 29 : Int32).toNatClampNeg (x2)) fun I10 => lt (up I10 MO 29 ((I10 MO 29) + 1)) fun I11 => some I11
set_option maxRecDepth 20000 in
set_option maxHeartbeats 4000000 in
theorem gb_Mod_push_18 {Δ : Dx} {X : Lx} (hX : MX Δ X)    {Γ : Cx} (hk : Γ.k = 1) {r : IM} (hT : Tg Δ Γ none NN (r, X) 0 0)  {x1 : Int32} {x2 : Int32} {x3 : Int32} {I : IM} (h : b_Mod_push_18   x1 x2 x3 I = some r) : GG Δ m_Mod_push Γ NN 0 0 (I, X) 18 [some (.ref (Δ.ba + MO)), some (.int (x1)), some (.int (x2)), some (.int (x3))] [] := by
  unfold b_Mod_push_18 at h
  refine g_aload_n (pc := 18) (dd d_Mod_push 9 rfl) rfl ?_
  refine g_iload_n (pc := 19) (dd d_Mod_push 10 rfl) rfl ?_
  suffices K20 : ∀ z : Int32, z = (if x3 = 0 then (I MO 28) else ((I MO 28) + (1)) : Int32) → GG Δ m_Mod_push Γ NN 0 0 (I, X) 36 [some (.ref (Δ.ba + MO)), some (.int (x1)), some (.int (x2)), some (.int (x3))] [.int (z), .ref (Δ.ba + MO)] by
    refine g_ifeq (pc := 20) (tgt := 32) (dd d_Mod_push 11 rfl) (by decide) (fun q5 => ?_) (fun q5 => ?_)
    · skip
      refine g_aload_n (pc := 32) (dd d_Mod_push 17 rfl) rfl ?_
      refine g_geti (pc := 33) (dd d_Mod_push 18 rfl) f_Mod_295 ob_MO rfl ?_
      exact K20 _ (by rw [if_pos q5])
    · skip
      refine g_aload_n (pc := 23) (dd d_Mod_push 12 rfl) rfl ?_
      refine g_geti (pc := 24) (dd d_Mod_push 13 rfl) f_Mod_295 ob_MO rfl ?_
      refine g_iconst (pc := 27) (v := 1) (dd d_Mod_push 14 rfl) (by decide) ?_
      refine g_iadd (pc := 28) (dd d_Mod_push 15 rfl) ?_
      refine g_goto (pc := 29) (tgt := 36) (dd d_Mod_push 16 rfl) (by decide) ?_
      exact K20 _ (by rw [if_neg q5])
  intro z hz
  subst hz
  refine g_putiN (pc := 36) (dd d_Mod_push 19 rfl) f_Mod_295 fm_Mod_28 ob_MO rfl (fun I6 hI6 => ?_)
  replace h := lt_e h hI6
  refine g_aload_n (pc := 39) (dd d_Mod_push 20 rfl) rfl ?_
  refine g_getr (pc := 40) (dd d_Mod_push 21 rfl) f_Mod_50 ob_MO rfl (mr_pile hX) ?_
  refine g_aload_n (pc := 43) (dd d_Mod_push 22 rfl) rfl ?_
  refine g_geti (pc := 44) (dd d_Mod_push 23 rfl) f_Mod_298 ob_MO rfl ?_
  refine g_iload_n (pc := 47) (dd d_Mod_push 24 rfl) rfl ?_
  obtain ⟨c7, h⟩ := chk_e h
  refine g_iastN (pc := 48) (dd d_Mod_push 25 rfl) ar_A_pile c7 (fun I8 hI8 => ?_)
  replace h := lt_e h hI8
  refine g_aload_n (pc := 49) (dd d_Mod_push 26 rfl) rfl ?_
  refine g_getr (pc := 50) (dd d_Mod_push 27 rfl) f_Mod_53 ob_MO rfl (mr_pileAt hX) ?_
  refine g_aload_n (pc := 53) (dd d_Mod_push 28 rfl) rfl ?_
  refine g_geti (pc := 54) (dd d_Mod_push 29 rfl) f_Mod_298 ob_MO rfl ?_
  refine g_iload_n (pc := 57) (dd d_Mod_push 30 rfl) rfl ?_
  obtain ⟨c9, h⟩ := chk_e h
  refine g_iastN (pc := 58) (dd d_Mod_push 31 rfl) ar_A_pileAt c9 (fun I10 hI10 => ?_)
  replace h := lt_e h hI10
  refine g_aload_n (pc := 59) (dd d_Mod_push 32 rfl) rfl ?_
  refine g_dup (pc := 60) (dd d_Mod_push 33 rfl) rfl ?_
  refine g_geti (pc := 61) (dd d_Mod_push 34 rfl) f_Mod_298 ob_MO rfl ?_
  refine g_iconst (pc := 64) (v := 1) (dd d_Mod_push 35 rfl) (by decide) ?_
  refine g_iadd (pc := 65) (dd d_Mod_push 36 rfl) ?_
  refine g_putiN (pc := 66) (dd d_Mod_push 37 rfl) f_Mod_298 fm_Mod_29 ob_MO rfl (fun I11 hI11 => ?_)
  replace h := lt_e h hI11
  cases h
  exact g_vret (pc := 69) rfl (dd d_Mod_push 38 rfl) hT
def f_Mod_push (x1 : Int32) (x2 : Int32) (x3 : Int32) (I : IM) : Option (IM) := if x3 = 0 then (b_Mod_push_18   x1 x2 x3 I) else (if (I MO 28 : Int32) = (10 : Int32) then (Option.bind (f_Mod_fail   I) fun v3 => some v3) else (b_Mod_push_18   x1 x2 x3 I))
set_option maxRecDepth 20000 in
set_option maxHeartbeats 4000000 in
theorem ef_Mod_push {Δ : Dx} {X : Lx} (hX : MX Δ X) {x1 : Int32} {x2 : Int32} {x3 : Int32}  {I : IM}  {r : IM} (h : f_Mod_push x1 x2 x3 I = some r) : Ev Δ 1 m_Mod_push [.ref (Δ.ba + MO), .int x1, .int x2, .int x3] (I, X) none (r, X) := by
  refine ev_of (by decide) (Nat.le_of_ble_eq_true rfl) (fun Γ hk hR hT => ?_)
  change GG Δ m_Mod_push Γ NN 0 0 (I, X) 0 [some (.ref (Δ.ba + MO)), some (.int (x1)), some (.int (x2)), some (.int (x3))] []
  unfold f_Mod_push at h
  refine g_iload_n (pc := 0) (dd d_Mod_push 0 rfl) rfl ?_
  refine g_ifeq (pc := 1) (tgt := 18) (dd d_Mod_push 1 rfl) (by decide) (fun q1 => ?_) (fun q1 => ?_)
  · replace h := ite_t h q1
    exact gb_Mod_push_18 hX hk hT  h
  · replace h := ite_f h q1
    refine g_aload_n (pc := 4) (dd d_Mod_push 2 rfl) rfl ?_
    refine g_geti (pc := 5) (dd d_Mod_push 3 rfl) f_Mod_295 ob_MO rfl ?_
    refine g_bipush (pc := 8) (v := 10) (dd d_Mod_push 4 rfl) (by decide) ?_
    refine g_icmpne (pc := 10) (tgt := 18) (dd d_Mod_push 5 rfl) (by decide) (fun q2 => ?_) (fun q2 => ?_)
    · replace h := ite_f h q2
      exact gb_Mod_push_18 hX hk hT  h
    · replace h := ite_t h q2
      refine g_aload_n (pc := 13) (dd d_Mod_push 6 rfl) rfl ?_
      obtain ⟨v3, e4, h⟩ := bnd_e h
      refine g_callV (pc := 14) (dd d_Mod_push 7 rfl) v_Mod_286 ob_MO rfl (ef_Mod_fail hX e4) rfl (by rw [hk]; decide) (Nat.le_of_ble_eq_true rfl) ⟨Nat.zero_le _, Nat.zero_le _⟩ rfl ?_
      cases h
      exact g_vret (pc := 17) rfl (dd d_Mod_push 8 rfl) hT
