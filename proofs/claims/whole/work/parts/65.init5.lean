/-! the start: the reference's setUp in the constructor -/
theorem z_up {I : IM} {a k b j : Nat} (h : I b j = 0) : up I a k 0 b j = 0 := by
  rw [up_at]
  split
  · rfl
  · exact h
theorem l7_0 {I : IM} {b : Nat} (h : ∀ j, I b j = 0) : ∀ N j, lp_Mod_setUp_7 I N b j = 0
  | 0, j => h j
  | N + 1, j => z_up (z_up (l7_0 h N j))
theorem l35_0 {I : IM} {b : Nat} (h : ∀ j, I b j = 0) : ∀ N j, lp_Mod_setUp_35 I N b j = 0
  | 0, j => h j
  | N + 1, j => z_up (z_up (z_up (l35_0 h N j)))
theorem l70_0 {I : IM} {b : Nat} (h : ∀ j, I b j = 0) : ∀ N j, lp_Mod_setUp_70 I N b j = 0
  | 0, j => h j
  | N + 1, j => z_up (z_up (l70_0 h N j))
theorem l173_0 {I : IM} {b : Nat} (h : ∀ j, I b j = 0) : ∀ N j, lp_Mod_setUp_173 I N b j = 0
  | 0, j => h j
  | N + 1, j => z_up (l173_0 h N j)
theorem l7_o {I : IM} {b : Nat} (h1 : b ≠ 119) (h2 : b ≠ 120) : ∀ N, lp_Mod_setUp_7 I N b = I b
  | 0 => rfl
  | N + 1 => (fu (by exact h2)).trans ((fu (by exact h1)).trans (l7_o h1 h2 N))
theorem l35_o {I : IM} {b : Nat} (h1 : b ≠ 121) (h2 : b ≠ 122) (h3 : b ≠ 123) : ∀ N, lp_Mod_setUp_35 I N b = I b
  | 0 => rfl
  | N + 1 => (fu (by exact h3)).trans ((fu (by exact h2)).trans ((fu (by exact h1)).trans (l35_o h1 h2 h3 N)))
theorem l70_o {I : IM} {b : Nat} (h1 : b ≠ 124) (h2 : b ≠ 125) : ∀ N, lp_Mod_setUp_70 I N b = I b
  | 0 => rfl
  | N + 1 => (fu (by exact h2)).trans ((fu (by exact h1)).trans (l70_o h1 h2 N))
theorem l173_o {I : IM} {b : Nat} (h1 : b ≠ 135) : ∀ N, lp_Mod_setUp_173 I N b = I b
  | 0 => rfl
  | N + 1 => (fu (by exact h1)).trans (l173_o h1 N)
theorem sSU {I : IM} {c : Int32} : (∀ b, b ≠ 102 → (∀ j, I b j = 0) → ∀ j, s_Mod_setUp I c b j = 0) ∧ (∀ b, b ≠ 102 → ¬ (119 ≤ b ∧ b < 136) → s_Mod_setUp I c b = I b) ∧ ∀ j, s_Mod_setUp I c 102 j = if j = 66 then -1 else if j = 63 then 0 else if j = 59 then 0 else if j = 58 then 0 else if j = 55 then 0 else if j = 54 then 0 else if j = 53 then 0 else if j = 52 then 0 else if j = 51 then 0 else if j = 50 then 0 else if j = 48 then 0 else if j = 45 then 0 else if j = 44 then -1 else if j = 43 then 0 else if j = 42 then 0 else if j = 34 then c else I 102 j := by
  obtain ⟨C, hC⟩ : ∃ z, z = lp_Mod_setUp_70 (lp_Mod_setUp_35 (lp_Mod_setUp_7 (up I MO 34 c) 64) 96) 8 := ⟨_, rfl⟩
  obtain ⟨D, hD⟩ : ∃ z, z = up (up (up (up (up (up (up (up (up (up (up (up (up (up (up C MO 42 0) MO 43 0) MO 44 (-1)) MO 45 0) MO 48 0) MO 50 0) MO 51 0) MO 52 0) MO 53 0) MO 54 0) MO 55 0) MO 58 0) MO 59 0) MO 63 0) MO 66 (-1) := ⟨_, rfl⟩
  have e : s_Mod_setUp I c = lp_Mod_setUp_173 D 88 := by rw [hD, hC]; rfl
  have eD : ∀ b, b ≠ 102 → D b = C b := fun b q => by
    rw [hD]
    rw [fu (by exact q), fu (by exact q), fu (by exact q), fu (by exact q), fu (by exact q), fu (by exact q), fu (by exact q), fu (by exact q), fu (by exact q), fu (by exact q), fu (by exact q), fu (by exact q), fu (by exact q), fu (by exact q), fu (by exact q)]
  rw [e]
  refine ⟨fun b q h j => ?_, fun b q q' => ?_, fun j => ?_⟩
  · refine l173_0 (fun j => ?_) 88 j
    rw [eD b q, hC]
    exact l70_0 (fun j => l35_0 (fun j => l7_0 (fun j => by rw [up_o (by exact q)]; exact h j) 64 j) 96 j) 8 j
  · rw [l173_o (by omega), eD b q, hC, l70_o (by omega) (by omega), l35_o (by omega) (by omega) (by omega), l7_o (by omega) (by omega), fu (by exact q)]
  · have h2 : C MO j = if j = 34 then c else I MO j := by
      rw [hC, l70_o (by decide) (by decide), l35_o (by decide) (by decide) (by decide), l7_o (by decide) (by decide), up_s]
    rw [l173_o (by decide)]
    show D MO j = _
    rw [hD]
    simp only [up_s, h2]
