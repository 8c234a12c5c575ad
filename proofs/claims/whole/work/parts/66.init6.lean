/-! the start: the relation -/
theorem hz_ {m : Nat} (h : isMch m) : ∀ i, i < 19 → i ≠ 0 → i ≠ 15 → i ≠ 17 → m + i ∉ [13, 16, 31, 33, 53, 55, 62, 64, 79, 81, 83, 98, 100] := by
  intro i h1 h2 h3 h4 hq
  simp only [List.mem_cons, List.not_mem_nil, or_false] at hq
  have : m = 16 ∨ m = 64 ∨ m = 83 := h
  omega
theorem ag_rs {m : Nat} (h : isMch m) : ag19 (rsV (vw eI m) 0) (vw eI m) := by
  obtain ⟨k0, k1, k2, k3, k4, k5, k6, k7, k8, k9, k10⟩ := eI_k h
  intro i hi
  funext j
  by_cases i0 : i = 0
  · subst i0
    show eI (m + 0) j = _
    rw [Nat.add_zero]
    by_cases j0 : j = 0
    · subst j0; simp [rsV, up_at, fil_at, k0]
    · by_cases j1 : j = 1
      · subst j1; simp [rsV, up_at, fil_at, k1]
      · by_cases j2 : j = 2
        · subst j2; simp [rsV, up_at, fil_at, k2]
        · simp [rsV, up_at, fil_at, j0, j1, j2, vw]
  · by_cases i15 : i = 15
    · subst i15
      show eI (m + 15) j = _
      by_cases j0 : j = 0
      · subst j0; simp [rsV, up_at, fil_at, k3]
      · by_cases j1 : j = 1
        · subst j1; simp [rsV, up_at, fil_at, k4]
        · simp [rsV, up_at, fil_at, j0, j1, vw]
    · by_cases i17 : i = 17
      · subst i17
        show eI (m + 17) j = _
        by_cases j0 : j = 0
        · subst j0; simp [rsV, up_at, fil_at, k7]
        · by_cases j1 : j = 1
          · subst j1; simp [rsV, up_at, fil_at, k8]
          · simp [rsV, up_at, fil_at, j0, j1, vw]
      · have z := eI_0 (hz_ h i hi i0 i15 i17) j
        show eI (m + i) j = _
        rw [z]
        unfold rsV
        simp only [up_at, fil_at, if_neg (show ¬ (i = 17 ∧ j = 1) from fun q => i17 q.1), if_neg (show ¬ (i = 17 ∧ j = 0) from fun q => i17 q.1), if_neg (show ¬ (i = 15 ∧ j = 1) from fun q => i15 q.1), if_neg (show ¬ (i = 15 ∧ j = 0) from fun q => i15 q.1), if_neg (show ¬ (i = 0 ∧ j = 0) from fun q => i0 q.1), if_neg (show ¬ (i = 0 ∧ j = 1) from fun q => i0 q.1), if_neg (show ¬ (i = 0 ∧ j = 2) from fun q => i0 q.1)]
        have : vw eI m i j = 0 := z
        rw [this]
        simp only [ite_self]
def bI : IM := fil (up (up eI 102 66 (-1)) 102 68 (-1)) 114 44 (-1)
theorem mC_I {Δ : Dx} : (s_ModC Δ (s_Eng0 Δ σ0)).1 = mvA (s_Mod_setUp bI 0) 0 := by
  have e : (fillI (s_ModB Δ (s_Eng0 Δ σ0)) A_ruleOf 44 (-1)).1 = bI := by
    rw [iF]
    show fil (stJs (s_ModA Δ (s_Eng0 Δ σ0)) 104 wlst).1 114 44 (-1) = _
    rw [stJs_I]
    unfold s_ModA
    simp only [iR, iI, en_I]
    rfl
  show s_Mod_moveAll (s_Mod_setUp (fillI (s_ModB Δ (s_Eng0 Δ σ0)) A_ruleOf 44 (-1)).1 0) 0 = _
  rw [e, sMA]
theorem bI_b {b : Nat} (h1 : b ≠ 102) (h2 : b ≠ 114) : bI b = eI b := by
  unfold bI
  rw [fr_fil rfl h2, fu h1, fu h1]
theorem rl_0 {PX : Nat → IM → Prop} (hX : PX 57 (mvA (s_Mod_setUp bI 0) 0)) : Rl PX 0 57 64 83 8 16 (mvA (s_Mod_setUp bI 0) 0) := by
  obtain ⟨s1, s2, s3⟩ := sSU (I := bI) (c := 0)
  obtain ⟨S, hS⟩ : ∃ z, z = s_Mod_setUp bI 0 := ⟨_, rfl⟩
  rw [← hS] at s1 s2 s3 hX ⊢
  obtain ⟨m1, m2, m3, m4, m5, m6⟩ := mvA_s (I := S) (o := 0)
  obtain ⟨K, hK⟩ : ∃ z, z = mvA S 0 := ⟨_, rfl⟩
  rw [← hK] at m1 m2 m3 m4 m5 m6 hX ⊢
  have kb : ∀ b, b < 102 → K b = eI b := fun b h => by rw [m6 b (by omega) (by omega) (by omega) (by omega), s2 b (by omega) (by omega), bI_b (by omega) (by omega)]
  have ar0 : ∀ i, i < 16 → ∀ k, S (arF.getD i 119) k = 0 := fun i hi k => by
    have hg := arF_ge i
    refine s1 _ (by omega) (fun j => ?_) k
    rw [bI_b (by omega) (by omega)]
    refine eI_0 (fun hq => ?_) j
    simp only [List.mem_cons, List.not_mem_nil, or_false] at hq
    omega
  have e102 : ∀ j, eI 102 j = 0 := eI_0 (by decide)
  have km : ∀ j, j ∉ scF → j ≠ 68 → K 102 j = 0 := fun j h h8 => by
    rw [m5 j h, s3 j]
    simp only [scF, List.mem_cons, List.not_mem_nil, or_false, not_or] at h
    have : bI 102 j = 0 := by
      unfold bI
      rw [fr_fil rfl (by decide), up_ne (Or.inr h8), up_ne (Or.inr h.2.2.2.2.2.2.2.2.2.2.2.2.2.2.2)]
      exact e102 j
    simp [h, this]
  have sv : ∀ i, i < 16 → S 102 (scF.getD i 34) = if i = 3 then -1 else if i = 15 then -1 else 0 := fun i hi => by
    rw [s3]
    revert i
    decide
  have fin : ∀ m, isMch m → ∀ s : MS, (∀ i, i < 16 → s.1 i = S 102 (scF.getD i 34)) → (∀ i, i < 16 → ∀ k, k < lenF.getD i 0 → s.2 i k = 0) → RM 0 (tlI K) K m s := fun m hm s q1 q2 => by
    refine RM_vw.mpr (RM_ag (ag_trans (ag_rs hm) (fun i hi => ?_)) (rs_RM (fun j h => ⟨q2 0 (by decide) j h, q2 1 (by decide) j h⟩) (fun j h => ⟨q2 2 (by decide) j h, q2 3 (by decide) j h, q2 4 (by decide) j h⟩) (fun j h => ⟨q2 5 (by decide) j h, q2 6 (by decide) j h⟩) (fun j h => q2 15 (by decide) j h) ?_ ?_ ?_ ?_ ?_ ?_ ?_ ?_ ?_ ?_ ?_ ?_ ?_ ?_ ?_))
    · funext j
      show K (m + i) j = eI (m + i) j
      rw [kb _ (mch_in hm hi)]
    all_goals (rw [q1 _ (by decide), sv _ (by decide)]; rfl)
  refine ⟨(by unfold DIS; decide), ?_, fun m hm => ?_, ?_, km 69 (by decide) (by decide), fin 64 (by decide) _ (fun i hi => ?_) (fun i hi k hk => ?_), fin 83 (by decide) _ (fun i hi => ?_) (fun i hi k hk => ?_), hX⟩
  · have e1 : K 1 0 = 0 := by rw [kb 1 (by decide)]; exact eI_0 (by decide) 0
    refine ⟨by rw [e1]; exact (km 2 (by decide) (by decide)).symm, by rw [e1]; decide, by rw [e1]; decide, fun k hk => ?_⟩
    rw [e1] at hk
    simp only [Int32.reduceToInt] at hk
    omega
  · obtain ⟨-, -, -, -, -, k5, k6, -, -, k9, k10⟩ := eI_k hm
    rw [kb _ (mch_in hm (by decide)), kb _ (mch_in hm (by decide))]
    exact ⟨k5, k6, k9, k10⟩
  · have e1 : K 40 0 = 0 := by rw [kb 40 (by decide)]; exact eI_0 (by decide) 0
    refine ⟨by rw [e1]; exact (km 71 (by decide) (by decide)).symm, Or.inl e1, fun q => ?_⟩
    rw [e1] at q
    exact absurd q (by decide)
  · show K 102 (scF.getD i 34) = _
    rw [m4 i hi, if_pos rfl]
  · show K (arF.getD i 119) k = 0
    rw [m1 i hi k hk, if_pos rfl]
    exact ar0 i hi k
  · show K 139 i = _
    exact m3 i hi
  · show K 139 (offF.getD i 0 + k) = 0
    rw [m2 i hi k hk]
    exact ar0 i hi k
