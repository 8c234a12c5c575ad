/-! the policies at the start -/
/-- no rule at all -/
def aZ : AP := (0, fun _ => 0, fun _ => 0, fun _ => 0, fun _ => 0, fun _ => 0, fun _ => 0, fun _ => 0, fun _ => -1)
theorem WF_Z : WF aZ := by
  refine ⟨by decide, rfl, fun q hq => absurd hq (Nat.not_lt_zero _), by decide, rfl, fun s hs => absurd hs (Nat.not_lt_zero _), by decide, fun k _ => Or.inl rfl, fun q hq => absurd hq (Nat.not_lt_zero _), fun s hs => absurd hs (Nat.not_lt_zero _), fun q hq => absurd hq (Nat.not_lt_zero _)⟩
theorem e62 : ∀ k, k < 22 → eI 62 k = -1 ∧ eI 53 k = -1 := by decide +kernel
theorem px_0 {KT : (Nat → Int32) → Int32 → AP → Prop} (hk : KT (fun _ => 0) 0 aZ) : PXk KT 57 (mvA (s_Mod_setUp bI 0) 0) := by
  obtain ⟨s1, s2, s3⟩ := sSU (I := bI) (c := 0)
  obtain ⟨m1, m2, m3, m4, m5, m6⟩ := mvA_s (I := s_Mod_setUp bI 0) (o := 0)
  have ob : ∀ b, b ≠ 102 → ¬ (119 ≤ b ∧ b < 136) → b ≠ 138 → b ≠ 139 → mvA (s_Mod_setUp bI 0) 0 b = bI b := fun b h h1 h2 h3 => by
    rw [m6 b h h2 h3 h1, s2 b h h1]
  have kp : mvA (s_Mod_setUp bI 0) 0 A_kept = fun _ => 0 := by
    rw [ob _ (by decide) (by decide) (by decide) (by decide), bI_b (by decide) (by decide)]
    funext j
    exact eI_0 (by decide) j
  have e102 : ∀ j, eI 102 j = 0 := eI_0 (by decide)
  have km : ∀ j, j ∉ scF → j ≠ 68 → mvA (s_Mod_setUp bI 0) 0 102 j = 0 := fun j h h8 => by
    rw [m5 j h, s3 j]
    simp only [scF, List.mem_cons, List.not_mem_nil, or_false, not_or] at h
    have : bI 102 j = 0 := by
      unfold bI
      rw [fr_fil rfl (by decide), up_ne (Or.inr h8), up_ne (Or.inr h.2.2.2.2.2.2.2.2.2.2.2.2.2.2.2)]
      exact e102 j
    simp [h, this]
  have ro : ∀ j, j < 44 → mvA (s_Mod_setUp bI 0) 0 A_ruleOf j = -1 := fun j hj => by
    rw [ob _ (by decide) (by decide) (by decide) (by decide)]
    unfold bI
    rw [fil_at, if_pos ⟨rfl, hj⟩]
  have nz : ∀ q, ¬ q < aNr aZ := fun q => Nat.not_lt_zero q
  have ns : ∀ s, ¬ s < aNs aZ := fun s => Nat.not_lt_zero s
  have nc : ∀ i, ¬ i < aNc aZ := fun i => Nat.not_lt_zero i
  have pr : ∀ ko ro so co, ko ≤ 22 → PR aZ ko ro so co (mvA (s_Mod_setUp bI 0) 0) := fun ko r so co h => ⟨fun k hk => ⟨fun _ => ro _ (by omega), fun q hq => absurd hq (nz q)⟩, fun q hq => absurd hq (nz q), fun s hs => absurd hs (ns s), fun i hi => absurd hi (nc i)⟩
  have pc : ∀ p, (∀ k, k < 22 → mvA (s_Mod_setUp bI 0) 0 (p + 5) k = -1) → PC aZ p (mvA (s_Mod_setUp bI 0) 0) := fun p h => ⟨fun k hk => ⟨fun _ => h k hk, fun q hq => absurd hq (nz q)⟩, fun s hs => absurd hs (ns s), fun s hs => absurd hs (ns s)⟩
  refine ⟨Or.inr (Or.inr rfl), aZ, aZ, WF_Z, WF_Z, pr 0 0 0 0 (by decide), ⟨fun s hs => absurd hs (ns s), km 15 (by decide) (by decide), km 18 (by decide) (by decide), km 23 (by decide) (by decide)⟩, pc 57 (fun k hk => ?_), pr 22 301 300 1000 (by decide), pc 48 (fun k hk => ?_), ?_⟩
  · rw [ob _ (by decide) (by decide) (by decide) (by decide), bI_b (by decide) (by decide)]
    exact (e62 k hk).1
  · rw [ob _ (by decide) (by decide) (by decide) (by decide), bI_b (by decide) (by decide)]
    exact (e62 k hk).2
  · rw [kp, km 32 (by decide) (by decide)]
    exact hk
