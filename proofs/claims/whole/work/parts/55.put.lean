/-! put: four bytes -/
def bt (x : Int32) (k : Nat) : Int32 := (x >>> (nI (8 * k) &&& 31)) &&& 255
abbrev okb (b : Int32) : Prop := b = 0 ∨ b = 10 ∨ (¬ b < 32 ∧ ¬ 126 < b)
def cb (b : Int32) : Int32 := if b = 0 then 0 else 1
theorem and255 (y : Int32) : ∃ m : Nat, m < 256 ∧ y &&& 255 = nI m := by
  refine ⟨(y &&& 255).toBitVec.toNat, ?_, ?_⟩
  · rw [Int32.toBitVec_and, BitVec.toNat_and]
    exact Nat.lt_of_le_of_lt Nat.and_le_right (by decide)
  · apply Int32.toBitVec.inj
    show (y &&& 255).toBitVec = BitVec.ofNat 32 _
    rw [BitVec.ofNat_toNat, BitVec.setWidth_eq]
theorem bt_n (x : Int32) (k : Nat) : ∃ m : Nat, m < 256 ∧ bt x k = nI m := and255 _
theorem nI_le0 : ∀ m, m < 256 → (nI m ≤ 0 ↔ nI m = 0) := by decide +kernel
theorem nI_char : ∀ m, m < 256 → cnar (((nI m).toUInt32 % 65536).toInt32) = nI m := by decide +kernel
theorem nI_ge0 : ∀ m, m < 256 → 0 ≤ (nI m).toInt := by decide +kernel
theorem k32 : ∀ k, k < 4 → ¬ (32 : Int32) ≤ nI (8 * k) := by decide
theorem k8 : ∀ k, k < 4 → nI (8 * k) + 8 = nI (8 * (k + 1)) := by decide
theorem k4 : ∀ k, k < 4 → ¬ (4 : Int32) ≤ nI k := by decide
theorem k1 : ∀ k, k < 4 → nI k + 1 = nI (k + 1) := by decide
theorem km : ∀ k, k < 4 → (8 : Int32) * nI k = nI (8 * k) := by decide
theorem pc_step {n f k : Nat} {x c : Int32} {I : IM} (hk : k < 4) (ho : okb (bt x k)) : l_Eng_put_4 n (f + 1) x c (nI (8 * k)) I = l_Eng_put_4 n f x (c + cb (bt x k)) (nI (8 * (k + 1))) I := by
  have h32 := k32 k hk
  have e8 := k8 k hk
  rw [l_Eng_put_4, if_neg h32]
  change (if bt x k = 0 then b_Eng_put_42 n (l_Eng_put_4 n f) x c (nI (8 * k)) (bt x k) I else Option.bind (f_Rdr_mayStand (bt x k) I) fun v4 => if v4 = 0 then none else b_Eng_put_42 n (l_Eng_put_4 n f) x c (nI (8 * k)) (bt x k) I) = _
  by_cases h0 : bt x k = 0
  · rw [if_pos h0, b_Eng_put_42, e8]
    rfl
  · have hm : f_Rdr_mayStand (bt x k) I = some 1 := by
      unfold f_Rdr_mayStand
      rcases ho with h | h | ⟨h1, h2⟩
      · exact absurd h h0
      · rw [h]; rfl
      · rw [if_neg h1, if_pos (by rw [ti] at h2; rw [tl]; omega)]
    rw [if_neg h0, hm, Option.bind_some, if_neg (by decide), b_Eng_put_42, e8]
    rfl
theorem pt_step {n f k : Nat} {x c : Int32} {I : IM} (hk : k < 4) (ho : okb (bt x k)) : tEng_put_l_4 n I (f + 1) x c (nI (8 * k)) = tEng_put_l_4 n I f x (c + cb (bt x k)) (nI (8 * (k + 1))) := by
  have h32 := k32 k hk
  have e8 := k8 k hk
  rw [tEng_put_l_4, if_neg h32]
  change (if bt x k = 0 then tEng_put_b_42 n I (tEng_put_l_4 n I f) x c (nI (8 * k)) (bt x k) else Option.bind (f_Rdr_mayStand (bt x k) I) fun v4 => if v4 = 0 then some 1 else tEng_put_b_42 n I (tEng_put_l_4 n I f) x c (nI (8 * k)) (bt x k)) = _
  by_cases h0 : bt x k = 0
  · rw [if_pos h0, tEng_put_b_42, e8]
    rfl
  · have hm : f_Rdr_mayStand (bt x k) I = some 1 := by
      unfold f_Rdr_mayStand
      rcases ho with h | h | ⟨h1, h2⟩
      · exact absurd h h0
      · rw [h]; rfl
      · rw [if_neg h1, if_pos (by rw [ti] at h2; rw [tl]; omega)]
    rw [if_neg h0, hm, Option.bind_some, if_neg (by decide), tEng_put_b_42, e8]
    rfl
theorem pt_bad {n f k : Nat} {x c : Int32} {I : IM} (hk : k < 4) (ho : ¬ okb (bt x k)) : tEng_put_l_4 n I (f + 1) x c (nI (8 * k)) = some 1 := by
  have h32 := k32 k hk
  rw [tEng_put_l_4, if_neg h32]
  change (if bt x k = 0 then tEng_put_b_42 n I (tEng_put_l_4 n I f) x c (nI (8 * k)) (bt x k) else Option.bind (f_Rdr_mayStand (bt x k) I) fun v4 => if v4 = 0 then some 1 else tEng_put_b_42 n I (tEng_put_l_4 n I f) x c (nI (8 * k)) (bt x k)) = _
  have h0 : ¬ bt x k = 0 := fun q => ho (Or.inl q)
  have h10 : ¬ bt x k = 10 := fun q => ho (Or.inr (Or.inl q))
  have hm : f_Rdr_mayStand (bt x k) I = some 0 := by
    unfold f_Rdr_mayStand
    by_cases h1 : bt x k < 32
    · rw [if_pos h1, if_neg h10]
    · rw [if_neg h1]
      by_cases h2 : bt x k ≤ 126
      · exact absurd (Or.inr (Or.inr ⟨h1, fun q => ile.mpr q h2⟩)) ho
      · rw [if_neg h2, if_neg h10]
  rw [if_neg h0, hm, Option.bind_some, if_pos rfl]
theorem pm_step {n f k : Nat} {x c g : Int32} {I : IM} (hk : k < 4) (hg : g = 0 ∨ g = 1) : l_Mod_put_7 n (f + 1) x c g (nI k) I = l_Mod_put_7 n f x (c + cb (bt x k)) (if g = 1 ∧ okb (bt x k) then 1 else 0) (nI (k + 1)) I := by
  have h4 := k4 k hk
  have e1 := k1 k hk
  have e8 := km k hk
  obtain ⟨m, hm, em⟩ := bt_n x k
  have hc : (if bt x k ≤ 0 then c else c + 1) = c + cb (bt x k) := by
    unfold cb
    by_cases q : bt x k = 0
    · rw [if_pos q, if_pos (by rw [em] at q ⊢; exact (nI_le0 m hm).mpr q)]
      simp
    · rw [if_neg q, if_neg (by rw [em] at q ⊢; exact fun z => q ((nI_le0 m hm).mp z))]
  rw [l_Mod_put_7, if_neg h4, e8]
  change (if g = 0 then b_Mod_put_58 n (l_Mod_put_7 n f) x c (nI k) (bt x k) I else if bt x k = 0 then b_Mod_put_54 n (l_Mod_put_7 n f) x c (nI k) (bt x k) I else if bt x k = 10 then b_Mod_put_54 n (l_Mod_put_7 n f) x c (nI k) (bt x k) I else Option.bind (f_Mod_in (bt x k) 32 126 I) fun v10 => l_Mod_put_7 n f x (if bt x k ≤ 0 then c else c + 1) (if v10 = 0 then 0 else 1) (nI k + 1) I) = _
  rcases hg with rfl | rfl
  · rw [if_pos rfl, b_Mod_put_58, b_Mod_put_59, hc, e1, if_neg (fun z => absurd z.1 (by decide))]
  · rw [if_neg (by decide)]
    by_cases q0 : bt x k = 0
    · rw [if_pos q0, b_Mod_put_54, b_Mod_put_59, hc, e1, if_pos ⟨rfl, Or.inl q0⟩]
    · rw [if_neg q0]
      by_cases q1 : bt x k = 10
      · rw [if_pos q1, b_Mod_put_54, b_Mod_put_59, hc, e1, if_pos ⟨rfl, Or.inr (Or.inl q1)⟩]
      · rw [if_neg q1, hc, e1]
        by_cases q2 : bt x k < 32
        · rw [if_neg (fun z => by rcases z.2 with z | z | z; exact q0 z; exact q1 z; exact z.1 q2)]
          simp only [f_Mod_in, if_pos q2, Option.bind_some, if_true]
        · by_cases q3 : 126 < bt x k
          · rw [if_neg (fun z => by rcases z.2 with z | z | z; exact q0 z; exact q1 z; exact z.2 q3)]
            simp only [f_Mod_in, if_neg q2, if_pos q3, Option.bind_some, if_true]
          · rw [if_pos ⟨rfl, Or.inr (Or.inr ⟨q2, q3⟩)⟩]
            simp only [f_Mod_in, if_neg q2, if_neg q3, Option.bind_some, if_neg (show ¬ (1 : Int32) = 0 by decide)]
