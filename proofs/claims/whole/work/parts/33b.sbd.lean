theorem ci_Eng_55 : CI "WardEngine" 55 m_Sbd_init 0 := ⟨⟨by decide, by decide, by decide +kernel⟩, rfl, rfl, tk2 222 rfl rfl, tk2 223 rfl rfl, tk1 17 rfl rfl, tk2 224 rfl rfl, by decide⟩
theorem ci_Sbd_1 : CI "java/lang/StringBuilder" 1 m_Asb_init 1 := ⟨⟨by decide, by decide, by decide +kernel⟩, rfl, rfl, tk2 225 rfl rfl, tk2 226 rfl rfl, tk1 16 rfl rfl, tk2 227 rfl rfl, by decide⟩
theorem oi_Asb_3 : Cond.methodLink "java/lang/AbstractStringBuilder" 3 Lib.objectInit ∈ tb := tk2 228 rfl rfl
theorem f_Asb_15 : Fx "java/lang/AbstractStringBuilder" 15 11 0 := ⟨R_Sbd, F_Sbd, 4, rfl, rfl, by decide, i_Sbd, t_Sbd_ok, n_Sbd, tk2 237 rfl rfl⟩
theorem fm_Sbd_0 : Fm 11 0 := fun _ _ _ h => by cases h; rfl
theorem f_Asb_22 : Fx "java/lang/AbstractStringBuilder" 22 11 1 := ⟨R_Sbd, F_Sbd, 4, rfl, rfl, by decide, i_Sbd, t_Sbd_ok, n_Sbd, tk2 238 rfl rfl⟩
theorem fm_Sbd_1 : Fm 11 1 := fun _ _ _ h => by cases h; rfl
def s_Sbd55 (Δ : Dx) (σ : St) : St := stI (stR σ 55 0 (.ref (Δ.ba + 56))) 55 1 0
theorem fr_Sbd55 {Δ : Dx} {σ : St} (hF : ∀ a, 56 ≤ a → Fresh σ a) : ∀ a, 57 ≤ a → Fresh (s_Sbd55 Δ σ) a := fI (b := 55) (j := 1) (v := 0) (fR (b := 55) (j := 0) (v := .ref (Δ.ba + 56)) (fS hF) (by decide)) (by decide)
theorem ec_Asb55 {Δ : Dx} {σ : St} (hF : ∀ a, 56 ≤ a → Fresh σ a) : EvC Δ 1 m_Asb_init 56 [.ref (Δ.ba + 55), .int 16] σ 57 (s_Sbd55 Δ σ) 1 16 := by
  refine evC_of (by decide) (Nat.le_of_ble_eq_true rfl) (fun Γ hk hR hT hz => ?_)
  unfold s_Sbd55 at hT
  refine g_aload_n (pc := 0) (dd d_Asb_init 0 rfl) rfl ?_
  refine g_objInit (pc := 1) (dd d_Asb_init 1 rfl) oi_Asb_3 oi_1 oi_2 (by rw [hk]; decide) (Nat.le_of_ble_eq_true rfl) ?_
  refine g_gets (pc := 4) (dd d_Asb_init 2 rfl) cs_1 cs_2 cs_3 fs_Asb_18 ?_
  refine g_ifeq (pc := 7) (tgt := 25) (dd d_Asb_init 3 rfl) (by decide) (fun q => absurd q (by decide)) (fun _ => ?_)
  refine g_aload_n (pc := 10) (dd d_Asb_init 4 rfl) rfl ?_
  refine g_iload_n (pc := 11) (dd d_Asb_init 5 rfl) rfl ?_
  refine g_newa (pc := 12) (N := 16) (t := 3) (dd d_Asb_init 6 rfl) rfl ac_byte rfl rfl (by decide) (by decide) (by decide) (hF _ (by decide)) (by omega) (by rw [hR]; decide) (by rw [hR]; decide) (Or.inr (Or.inr (Or.inr rfl))) ?_
  refine g_putR (pc := 14) (j := 0) (dd d_Asb_init 7 rfl) f_Asb_15 (Or.inl fm_Sbd_0) ⟨by decide, rfl⟩ rfl (fun _ => rfl) (fun _ => rfl) ?_
  refine g_aload_n (pc := 17) (dd d_Asb_init 8 rfl) rfl ?_
  refine g_iconst (pc := 18) (v := 0) (dd d_Asb_init 9 rfl) (by decide) ?_
  refine g_put (pc := 19) (a := 55) (j := 1) (σ' := stI (stR σ 55 0 (.ref (Δ.ba + 56))) 55 1 0) (dd d_Asb_init 10 rfl) f_Asb_22 (Or.inl fm_Sbd_1) ⟨by decide, rfl⟩ (by decide) (by decide) (fv_I rfl) (fun i h => fv_In h) (fun b h => cellO_I h) ?_
  refine g_goto (pc := 22) (tgt := 38) (dd d_Asb_init 11 rfl) (by decide) ?_
  exact g_vret (pc := 38) rfl (dd d_Asb_init 19 rfl) hT
theorem ec_Sbd55 {Δ : Dx} {σ : St} (hF : ∀ a, 56 ≤ a → Fresh σ a) : EvC Δ 2 m_Sbd_init 56 [.ref (Δ.ba + 55)] σ 57 (s_Sbd55 Δ σ) 1 16 := by
  refine evC_of (by decide) (Nat.le_of_ble_eq_true rfl) (fun Γ hk hR hT hz => ?_)
  refine g_aload_n (pc := 0) (dd d_Sbd_init 0 rfl) rfl ?_
  refine g_bipush (pc := 1) (v := 16) (dd d_Sbd_init 1 rfl) (by decide) ?_
  refine g_callI (pc := 3) (dd d_Sbd_init 2 rfl) ci_Sbd_1 (ec_Asb55 hF) rfl (by rw [hk]; decide) (Nat.le_of_ble_eq_true rfl) (by rw [hR]; exact ⟨by decide, by decide⟩) rfl (by omega) ?_
  exact g_vret (pc := 6) rfl (dd d_Sbd_init 3 rfl) hT
