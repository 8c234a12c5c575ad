/-! the relation stays when a call is counted; what of the law's obligations is closed -/
theorem Rl_mono {PX : Nat → IM → Prop} : ∀ t rl hd ot pt it I, Rl PX t rl hd ot pt it I → Rl PX (t + 1) rl hd ot pt it I := by
  intro t rl hd ot pt it I h
  obtain ⟨d, tx, rc, wi, h69, r1, r2, px⟩ := h
  exact ⟨d, tx, rc, wi, h69, RM_t r1, RM_t r2, px⟩
/-- the seven calls that hang on the policy, and listing, are all that is owed of the calls -/
theorem do_rest {Δ : Dx} {PX : Nat → IM → Prop} (hP : PXF PX) (hl : Do_listing Δ (Sx Δ (Rl PX))) (h1 : Ma_policy (Rl PX)) (h2 : Ma_image (Rl PX)) (h3 : Ma_run (Rl PX)) (h4 : Ma_names (Rl PX)) (h5 : Ma_cacheOf (Rl PX)) (h6 : Ma_keep (Rl PX)) (h7 : Ma_differ (Rl PX)) : DoAll Δ (Sx Δ (Rl PX)) :=
  do_all Rl_mono hl ⟨ma_put hP, ma_end hP, h1, h2, ma_codeOf hP, ma_begin hP, ma_code hP, ma_word hP, ma_register hP, ma_input hP, h3, ma_state hP, ma_registerOf hP, ma_wordOf hP, ma_output hP, ma_pairOf hP, h4, ma_blame hP, ma_journal hP, ma_count hP, h5, h6, h7, ma_witness hP, ma_twin hP, ma_swap hP, ma_unlike hP⟩
