theorem i_owed : ∀ Δ : Dx, Kx Δ Δ.s0 → Owed Δ := owed_L PXk_F (px_0 kt_0) ma_policy (ma_image PXk_F) ma_run ma_names ma_cacheOf ma_keep ma_differ
theorem i_vc : Claimed_1_1 ∧ Claimed_1_2 := ⟨lw_limb i_owed limb_1_1 (fun _ _ _ => rfl), lw_limb i_owed limb_1_2 (fun _ _ _ => rfl)⟩
