/-! all is put together -/
theorem ln_0 : LN (mvA (s_Mod_setUp bI 0) 0) := by
  obtain ⟨-, -, -, -, -, m6⟩ := mvA_s (I := s_Mod_setUp bI 0) (o := 0)
  obtain ⟨-, s2, -⟩ := sSU (I := bI) (c := 0)
  have e5 : mvA (s_Mod_setUp bI 0) 0 55 = eI 55 := by rw [m6 55 (by decide) (by decide) (by decide) (by decide), s2 55 (by decide) (by decide), bI_b (by decide) (by decide)]
  have e6 : mvA (s_Mod_setUp bI 0) 0 56 = eI 56 := by rw [m6 56 (by decide) (by decide) (by decide) (by decide), s2 56 (by decide) (by decide), bI_b (by decide) (by decide)]
  unfold LN
  rw [e5, e6]
  exact ⟨by decide +kernel, by decide +kernel, fun k => by rw [eI_0 (by decide)]; rfl⟩
theorem owed_L {PX : Nat → IM → Prop} (hP : PXF PX) (h0 : PX 57 (mvA (s_Mod_setUp bI 0) 0)) (h1 : Ma_policy (Rl PX)) (h2 : Ma_image (Rl PX)) (h3 : Ma_run (Rl PX)) (h4 : Ma_names (Rl PX)) (h5 : Ma_cacheOf (Rl PX)) (h6 : Ma_keep (Rl PX)) (h7 : Ma_differ (Rl PX)) : ∀ Δ : Dx, Kx Δ Δ.s0 → Owed Δ := by
  intro Δ hK
  have hF : ∀ a, 102 ≤ a → Fresh (s_Eng0 Δ σ0) a := fr_Eng0 (fun a _ => fresh0 a)
  have hF3 : ∀ a, 103 ≤ a → Fresh (s_Eng0 Δ σ0) a := fun a h => hF a (by omega)
  refine ⟨Sx Δ (RlL (Rl PX)), s_Eng0 Δ σ0, s_ModC Δ (s_Eng0 Δ σ0), 6, 2, by decide, by decide, ec_Eng0 hK (fun a _ => fresh0 a), ec_Mod hF3, hF, ⟨fr_ModC, dy_ModC⟩, ⟨57, 64, 83, 8, 16, ex_0 hK, mx_ModB hF3, jok_0 hF3, ?_⟩, do_all (fun t rl hd ot pt it I h => ⟨Rl_mono t rl hd ot pt it I h.1, h.2⟩) (do_listing hP) (ml_all ⟨ma_put hP, ma_end hP, h1, h2, ma_codeOf hP, ma_begin hP, ma_code hP, ma_word hP, ma_register hP, ma_input hP, h3, ma_state hP, ma_registerOf hP, ma_wordOf hP, ma_output hP, ma_pairOf hP, h4, ma_blame hP, ma_journal hP, ma_count hP, h5, h6, h7, ma_witness hP, ma_twin hP, ma_swap hP, ma_unlike hP⟩)⟩
  rw [mC_I]
  exact ⟨rl_0 h0, ln_0⟩
