/-! what is owed: the start is closed; left are the policy's relation, seven calls and listing -/
theorem dy_ModC {Δ : Dx} (ca : FieldType → ClassId) (ba : Nat) : dyO ca ba (s_ModC Δ (s_Eng0 Δ σ0)) = [] := by
  have hF : ∀ a, 102 ≤ a → Fresh (s_Eng0 Δ σ0) a := fr_Eng0 (fun a _ => fresh0 a)
  have hB : ∀ a, 141 ≤ a → Fresh (s_ModB Δ (s_Eng0 Δ σ0)) a := fJs (n := 141) (b := 104) wlst (fr_ModA (fun a h => hF a (by omega))) (by decide)
  have e : (s_ModC Δ (s_Eng0 Δ σ0)).2.2 = (s_ModB Δ (s_Eng0 Δ σ0)).2.2 := rfl
  unfold dyO
  rw [e, (hB 201 (by decide)).2.2 6, (hB 203 (by decide)).2.2 6]
  rfl
theorem fr_ModC {Δ : Dx} : Fresh (s_ModC Δ (s_Eng0 Δ σ0)) 141 := by
  have hF : ∀ a, 102 ≤ a → Fresh (s_Eng0 Δ σ0) a := fr_Eng0 (fun a _ => fresh0 a)
  have hB : Fresh (s_ModB Δ (s_Eng0 Δ σ0)) 141 := fJs (n := 141) (b := 104) wlst (fr_ModA (fun a h => hF a (by omega))) (by decide) 141 (Nat.le_refl _)
  refine ⟨fun j => ?_, hB.2.1, hB.2.2⟩
  rw [mC_I]
  obtain ⟨-, -, -, -, -, m6⟩ := mvA_s (I := s_Mod_setUp bI 0) (o := 0)
  obtain ⟨-, s2, -⟩ := sSU (I := bI) (c := 0)
  rw [m6 141 (by decide) (by decide) (by decide) (by decide), s2 141 (by decide) (by decide), bI_b (by decide) (by decide)]
  exact eI_0 (by decide) j
theorem owed_of {PX : Nat → IM → Prop} (hP : PXF PX) (h0 : PX 57 (mvA (s_Mod_setUp bI 0) 0)) (hl : ∀ Δ, Do_listing Δ (Sx Δ (Rl PX))) (h1 : Ma_policy (Rl PX)) (h2 : Ma_image (Rl PX)) (h3 : Ma_run (Rl PX)) (h4 : Ma_names (Rl PX)) (h5 : Ma_cacheOf (Rl PX)) (h6 : Ma_keep (Rl PX)) (h7 : Ma_differ (Rl PX)) : ∀ Δ : Dx, Kx Δ Δ.s0 → Owed Δ := by
  intro Δ hK
  have hF : ∀ a, 102 ≤ a → Fresh (s_Eng0 Δ σ0) a := fr_Eng0 (fun a _ => fresh0 a)
  have hF3 : ∀ a, 103 ≤ a → Fresh (s_Eng0 Δ σ0) a := fun a h => hF a (by omega)
  refine ⟨Sx Δ (Rl PX), s_Eng0 Δ σ0, s_ModC Δ (s_Eng0 Δ σ0), 6, 2, by decide, by decide, ec_Eng0 hK (fun a _ => fresh0 a), ec_Mod hF3, hF, ⟨fr_ModC, dy_ModC⟩, ⟨57, 64, 83, 8, 16, ex_0 hK, mx_ModB hF3, jok_0 hF3, ?_⟩, do_rest hP (hl Δ) h1 h2 h3 h4 h5 h6 h7⟩
  rw [mC_I]
  exact rl_0 h0
