/-! begin: the reference's setUp, loop by loop -/
theorem nk {k N : Nat} (hk : k < N) (hN : N ≤ 5000) : ¬ nI N ≤ nI k := by
  rw [tl, nI_toInt (by omega), nI_toInt (by omega)]
  omega
theorem nk1 {k : Nat} : nI k + 1 = nI (k + 1) := by
  unfold nI
  exact (Int32.ofNat_add k 1).symm
theorem nkc {k : Nat} (h : k < 5000) : (nI k).toNatClampNeg = k := by
  have h0 : ¬ nI k < 0 := by
    rw [ti, nI_toInt (by omega)]
    simp only [Int32.reduceToInt]
    omega
  have := nat_of h0
  rw [nI_toInt (by omega)] at this
  omega
theorem nki {k N : Nat} (hk : k < N) (hN : N ≤ 5000) : inb (nI k) N := inb_of (by rw [ti, nI_toInt (by omega)]; simp only [Int32.reduceToInt]; omega) (by rw [nI_toInt (by omega)]; omega)
theorem su_173 {n : Nat} : ∀ (d f k : Nat) (I : IM), k + d = 88 → d < f → ∃ I', l_Mod_setUp_173 n f (nI k) I = some I' ∧ (∀ j, k ≤ j → j < 88 → I' 135 j = 0) ∧ (∀ j, j < k → I' 135 j = I 135 j) ∧ ∀ b, b ≠ 135 → I' b = I b
  | 0, f + 1, k, I, hd, _ => by
    have hk : k = 88 := by omega
    subst hk
    exact ⟨I, by rw [l_Mod_setUp_173, if_pos (by decide)], fun j h1 h2 => by omega, fun _ _ => rfl, fun _ _ => rfl⟩
  | d + 1, f + 1, k, I, hd, hf => by
    obtain ⟨I', e, h1, h2, h3⟩ := su_173 (n := n) d f (k + 1) (up I A_counts k 0) (by omega) (by omega)
    refine ⟨I', ?_, fun j q1 q2 => ?_, fun j q => ?_, fun b q => ?_⟩
    · rw [l_Mod_setUp_173, if_neg (show ¬ (88 : Int32) ≤ nI k from nk (N := 88) (by omega) (by decide)), chk_i (nki (by omega) (by decide)), lt, nkc (by omega), nk1]
      exact e
    · by_cases q : j = k
      · rw [q, h2 k (by omega)]
        exact up_self
      · exact h1 j (by omega) q2
    · rw [h2 j (by omega)]
      exact up_ne (Or.inr (by omega))
    · rw [h3 b q, fu (by exact q)]
theorem su_70 {n : Nat} : ∀ (d f k : Nat) (I : IM), k + d = 8 → d < f → ∃ I', l_Mod_setUp_70 n f (nI k) I = l_Mod_setUp_70 n 1 (nI 8) I' ∧ (∀ j, k ≤ j → j < 8 → I' 124 j = 0 ∧ I' 125 j = 0) ∧ (∀ j, j < k → I' 124 j = I 124 j ∧ I' 125 j = I 125 j) ∧ ∀ b, b ≠ 124 → b ≠ 125 → I' b = I b
  | 0, f + 1, k, I, hd, _ => by
    have hk : k = 8 := by omega
    subst hk
    exact ⟨I, by rw [l_Mod_setUp_70, l_Mod_setUp_70, if_pos (by decide), if_pos (by decide)], fun j h1 h2 => by omega, fun _ _ => ⟨rfl, rfl⟩, fun _ _ _ => rfl⟩
  | d + 1, f + 1, k, I, hd, hf => by
    obtain ⟨I', e, h1, h2, h3⟩ := su_70 (n := n) d f (k + 1) (up (up I A_registers k 0) A_registerTags k 0) (by omega) (by omega)
    refine ⟨I', ?_, fun j q1 q2 => ?_, fun j q => ?_, fun b q q' => ?_⟩
    · rw [l_Mod_setUp_70, if_neg (show ¬ (8 : Int32) ≤ nI k from nk (N := 8) (by omega) (by decide)), chk_i (nki (by omega) (by decide)), lt, lt, nkc (by omega), nk1]
      exact e
    · by_cases q : j = k
      · rw [q, (h2 k (by omega)).1, (h2 k (by omega)).2]
        exact ⟨by rw [up_o (by decide)]; exact up_self, up_self⟩
      · exact h1 j (by omega) q2
    · rw [(h2 j (by omega)).1, (h2 j (by omega)).2]
      exact ⟨by rw [up_o (by decide)]; exact up_ne (Or.inr (by omega)), by rw [up_ne (Or.inr (by omega)), up_o (by decide)]⟩
    · rw [h3 b q q', fu (by exact q'), fu (by exact q)]
theorem su_35 {n : Nat} : ∀ (d f k : Nat) (I : IM), k + d = 96 → d < f → ∃ I', l_Mod_setUp_35 n f (nI k) I = l_Mod_setUp_70 n n 0 I' ∧ (∀ j, k ≤ j → j < 96 → I' 121 j = 0 ∧ I' 122 j = 0 ∧ I' 123 j = 0) ∧ (∀ j, j < k → I' 121 j = I 121 j ∧ I' 122 j = I 122 j ∧ I' 123 j = I 123 j) ∧ ∀ b, b ≠ 121 → b ≠ 122 → b ≠ 123 → I' b = I b
  | 0, f + 1, k, I, hd, _ => by
    have hk : k = 96 := by omega
    subst hk
    exact ⟨I, by rw [l_Mod_setUp_35, if_pos (by decide)], fun j h1 h2 => by omega, fun _ _ => ⟨rfl, rfl, rfl⟩, fun _ _ _ _ => rfl⟩
  | d + 1, f + 1, k, I, hd, hf => by
    obtain ⟨I', e, h1, h2, h3⟩ := su_35 (n := n) d f (k + 1) (up (up (up I A_ints k 0) A_held k 0) A_owners k 0) (by omega) (by omega)
    refine ⟨I', ?_, fun j q1 q2 => ?_, fun j q => ?_, fun b q q' q'' => ?_⟩
    · rw [l_Mod_setUp_35, if_neg (show ¬ (96 : Int32) ≤ nI k from nk (N := 96) (by omega) (by decide)), chk_i (nki (by omega) (by decide)), lt, lt, lt, nkc (by omega), nk1]
      exact e
    · by_cases q : j = k
      · obtain ⟨y1, y2, y3⟩ := h2 k (by omega)
        rw [q, y1, y2, y3]
        exact ⟨by rw [up_o (by decide), up_o (by decide)]; exact up_self, by rw [up_o (by decide)]; exact up_self, up_self⟩
      · exact h1 j (by omega) q2
    · obtain ⟨y1, y2, y3⟩ := h2 j (by omega)
      rw [y1, y2, y3]
      exact ⟨by rw [up_o (by decide), up_o (by decide)]; exact up_ne (Or.inr (by omega)), by rw [up_o (by decide), up_ne (Or.inr (by omega)), up_o (by decide)], by rw [up_ne (Or.inr (by omega)), up_o (by decide), up_o (by decide)]⟩
    · rw [h3 b q q' q'', fu (by exact q''), fu (by exact q'), fu (by exact q)]
theorem su_7 {n : Nat} : ∀ (d f k : Nat) (I : IM), k + d = 64 → d < f → ∃ I', l_Mod_setUp_7 n f (nI k) I = l_Mod_setUp_35 n n 0 I' ∧ (∀ j, k ≤ j → j < 64 → I' 119 j = 0 ∧ I' 120 j = 0) ∧ (∀ j, j < k → I' 119 j = I 119 j ∧ I' 120 j = I 120 j) ∧ ∀ b, b ≠ 119 → b ≠ 120 → I' b = I b
  | 0, f + 1, k, I, hd, _ => by
    have hk : k = 64 := by omega
    subst hk
    exact ⟨I, by rw [l_Mod_setUp_7, if_pos (by decide)], fun j h1 h2 => by omega, fun _ _ => ⟨rfl, rfl⟩, fun _ _ _ => rfl⟩
  | d + 1, f + 1, k, I, hd, hf => by
    obtain ⟨I', e, h1, h2, h3⟩ := su_7 (n := n) d f (k + 1) (up (up I A_code k 0) A_codeTags k 0) (by omega) (by omega)
    refine ⟨I', ?_, fun j q1 q2 => ?_, fun j q => ?_, fun b q q' => ?_⟩
    · rw [l_Mod_setUp_7, if_neg (show ¬ (64 : Int32) ≤ nI k from nk (N := 64) (by omega) (by decide)), chk_i (nki (by omega) (by decide)), lt, lt, nkc (by omega), nk1]
      exact e
    · by_cases q : j = k
      · rw [q, (h2 k (by omega)).1, (h2 k (by omega)).2]
        exact ⟨by rw [up_o (by decide)]; exact up_self, up_self⟩
      · exact h1 j (by omega) q2
    · rw [(h2 j (by omega)).1, (h2 j (by omega)).2]
      exact ⟨by rw [up_o (by decide)]; exact up_ne (Or.inr (by omega)), by rw [up_ne (Or.inr (by omega)), up_o (by decide)]⟩
    · rw [h3 b q q', fu (by exact q'), fu (by exact q)]
/-- what setUp leaves: all that it sets, and nothing else -/
theorem su_spec {n : Nat} {c : Int32} {I : IM} (hn : 100 ≤ n) : ∃ I2, f_Mod_setUp n c I = some I2 ∧ (∀ j, j < 64 → I2 119 j = 0 ∧ I2 120 j = 0) ∧ (∀ j, j < 96 → I2 121 j = 0 ∧ I2 122 j = 0 ∧ I2 123 j = 0) ∧ (∀ j, j < 8 → I2 124 j = 0 ∧ I2 125 j = 0) ∧ (∀ j, j < 88 → I2 135 j = 0) ∧ I2 MO 34 = c ∧ (∀ j ∈ [42, 43, 45, 48, 50, 51, 52, 53, 54, 55, 58, 59, 63], I2 MO j = 0) ∧ I2 MO 44 = -1 ∧ I2 MO 66 = -1 ∧ (∀ j, j ∉ [34, 42, 43, 44, 45, 48, 50, 51, 52, 53, 54, 55, 58, 59, 63, 66] → I2 MO j = I MO j) ∧ ∀ b, b ≠ 102 → ¬ (119 ≤ b ∧ b < 136) → I2 b = I b := by
  obtain ⟨A, a1, a2, -, a4⟩ := su_7 (n := n) 64 n 0 (up I MO 34 c) (by decide) (by omega)
  obtain ⟨B, b1, b2, -, b4⟩ := su_35 (n := n) 96 n 0 A (by decide) (by omega)
  obtain ⟨C, c1, c2, -, c4⟩ := su_70 (n := n) 8 n 0 B (by decide) (by omega)
  obtain ⟨D, hD⟩ : ∃ z, z = up (up (up (up (up (up (up (up (up (up (up (up (up (up (up C MO 42 0) MO 43 0) MO 44 (-1)) MO 45 0) MO 48 0) MO 50 0) MO 51 0) MO 52 0) MO 53 0) MO 54 0) MO 55 0) MO 58 0) MO 59 0) MO 63 0) MO 66 (-1) := ⟨_, rfl⟩
  obtain ⟨E, e1, e2, -, e4⟩ := su_173 (n := n) 88 n 0 D (by decide) (by omega)
  have eD : ∀ b, b ≠ 102 → D b = C b := fun b q => by
    rw [hD]
    rw [fu (by exact q), fu (by exact q), fu (by exact q), fu (by exact q), fu (by exact q), fu (by exact q), fu (by exact q), fu (by exact q), fu (by exact q), fu (by exact q), fu (by exact q), fu (by exact q), fu (by exact q), fu (by exact q), fu (by exact q)]
  have dj : ∀ j, D MO j = if j = 66 then -1 else if j = 63 then 0 else if j = 59 then 0 else if j = 58 then 0 else if j = 55 then 0 else if j = 54 then 0 else if j = 53 then 0 else if j = 52 then 0 else if j = 51 then 0 else if j = 50 then 0 else if j = 48 then 0 else if j = 45 then 0 else if j = 44 then -1 else if j = 43 then 0 else if j = 42 then 0 else if j = 34 then c else I MO j := fun j => by
    have hC : C MO j = if j = 34 then c else I MO j := by
      rw [c4 _ (by decide) (by decide), b4 _ (by decide) (by decide) (by decide), a4 _ (by decide) (by decide), up_s]
    rw [hD]
    simp only [up_s, hC]
  have em : E MO = D MO := e4 _ (by decide)
  refine ⟨E, ?_, fun j q => ?_, fun j q => ?_, fun j q => ?_, fun j q => e2 j (by omega) q, ?_, fun j q => ?_, ?_, ?_, fun j q => ?_, fun b q q' => ?_⟩
  · unfold f_Mod_setUp
    rw [lt]
    have z0 : (0 : Int32) = nI 0 := rfl
    rw [z0, a1, z0, b1, z0, c1]
    rw [l_Mod_setUp_70, if_pos (by decide)]
    simp only [lt]
    rw [← hD, z0]
    exact e1
  · rw [e4 _ (by decide), eD _ (by decide), c4 _ (by decide) (by decide), b4 _ (by decide) (by decide) (by decide), e4 _ (by decide), eD _ (by decide), c4 _ (by decide) (by decide), b4 _ (by decide) (by decide) (by decide)]
    exact a2 j (by omega) q
  · rw [e4 _ (by decide), eD _ (by decide), c4 _ (by decide) (by decide), e4 _ (by decide), eD _ (by decide), c4 _ (by decide) (by decide), e4 _ (by decide), eD _ (by decide), c4 _ (by decide) (by decide)]
    exact b2 j (by omega) q
  · rw [e4 _ (by decide), eD _ (by decide), e4 _ (by decide), eD _ (by decide)]
    exact c2 j (by omega) q
  · rw [em, dj]
    rfl
  · rw [em, dj]
    revert j
    simp
  · rw [em, dj]
    rfl
  · rw [em, dj]
    rfl
  · rw [em, dj]
    simp only [List.mem_cons, List.not_mem_nil, or_false, not_or] at q
    simp [q]
  · rw [e4 b (by omega), eD b q, c4 b (by omega) (by omega), b4 b (by omega) (by omega) (by omega), a4 b (by omega) (by omega), fu (by exact q)]
