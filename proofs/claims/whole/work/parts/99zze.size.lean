/-! a number's decimal signs; how many they are -/
def dg (n : Nat) : List Int32 := if n < 10 then [nI (48 + n)] else dg (n / 10) ++ [nI (48 + n % 10)]
termination_by n
decreasing_by omega
theorem dg_1 {n : Nat} (h : n < 10) : dg n = [nI (48 + n)] := by
  rw [dg, if_pos h]
theorem dg_2 {n : Nat} (h : ¬ n < 10) : dg n = dg (n / 10) ++ [nI (48 + n % 10)] := by
  rw [dg, if_neg h]
theorem dg_len : ∀ (i a : Nat), (i = 0 ∨ 10 ^ i ≤ a) → a < 10 ^ (i + 1) → (dg a).length = i + 1
  | 0, a, _, h => by
    rw [dg_1 (by omega)]
    rfl
  | i + 1, a, h0, h => by
    have h1 : 10 ^ (i + 1) ≤ a := by
      rcases h0 with h0 | h0
      · omega
      · exact h0
    have hp : 0 < 10 ^ i := Nat.pow_pos (by decide)
    have ih := dg_len i (a / 10)
    rw [Nat.pow_succ] at h h1
    rw [Nat.pow_succ] at h ih
    generalize 10 ^ i = X at h h1 hp ih
    rw [dg_2 (by omega), List.length_append, ih (Or.inr (by omega)) (by omega)]
    rfl
def dA (x : Int32) : Nat := x.toInt.natAbs
def dS (x : Int32) : List Int32 := if x < 0 then nI 45 :: dg (dA x) else dg (dA x)
theorem dA_le (x : Int32) : dA x ≤ 2147483648 := by
  have h1 := Int32.le_toInt x
  have h2 := Int32.toInt_lt x
  unfold dA
  omega
theorem lt0 {x : Int32} : x < 0 ↔ x.toInt < 0 := by
  rw [Int32.lt_iff_toInt_lt]
  rfl
theorem neg_p {x : Int32} (h : ¬ x < 0) : (-x).toInt = -((dA x : Nat) : Int) := by
  rw [lt0] at h
  have h2 := Int32.toInt_lt x
  rw [Int32.toInt_neg, Int.bmod_eq_of_le (by omega) (by omega)]
  unfold dA
  omega
theorem neg_n {x : Int32} (h : x < 0) : x.toInt = -((dA x : Nat) : Int) := by
  rw [lt0] at h
  unfold dA
  omega
section SizeRun
variable {Δ : Dx} {Γ : Cx} {n : Nat} {σ : St} {y d : Int32} {a : Nat}
theorem ss_loop (hT : Tg Δ Γ (some (.int (nI (dg a).length + d))) n σ 0 0) (hy : y.toInt = -((a : Nat) : Int)) (ha : a ≤ 2147483648) : ∀ (k i : Nat) (p : Int32), i + k = 10 → 1 ≤ i → (i = 1 ∨ 10 ^ (i - 1) ≤ a) → (i ≤ 9 → p.toInt = -((10 ^ i : Nat) : Int)) → GG Δ m_Int_stringSize Γ n 0 0 σ 16 [some (.int y), some (.int d), some (.int p), some (.int (nI i))] []
  | 0, i, p, hi, h1, h2, h3 => by
    have e : i = 10 := by omega
    subst e
    refine g_iload_n (pc := 16) (dd d_Int_stringSize 13 rfl) rfl ?_
    refine g_bipush (pc := 17) (v := nI 10) (dd d_Int_stringSize 14 rfl) (by decide) ?_
    refine g_icmpge (pc := 19) (tgt := 42) (dd d_Int_stringSize 15 rfl) (by decide) (fun _ => ?_) (fun q => absurd (nI_le (Nat.le_refl 10) (by decide)) q)
    refine g_bipush (pc := 42) (v := nI 10) (dd d_Int_stringSize 29 rfl) (by decide) ?_
    refine g_iload_n (pc := 44) (dd d_Int_stringSize 30 rfl) rfl ?_
    refine g_iadd (pc := 45) (dd d_Int_stringSize 31 rfl) ?_
    have hl : (dg a).length = 10 := dg_len 9 a (Or.inr (by
      rcases h2 with h2 | h2
      · omega
      · exact h2)) (by omega)
    rw [hl] at hT
    exact g_iret (pc := 46) rfl (dd d_Int_stringSize 32 rfl) hT
  | k + 1, i, p, hi, h1, h2, h3 => by
    have ih := ss_loop hT hy ha k
    have hp := h3 (by omega)
    refine g_iload_n (pc := 16) (dd d_Int_stringSize 13 rfl) rfl ?_
    refine g_bipush (pc := 17) (v := nI 10) (dd d_Int_stringSize 14 rfl) (by decide) ?_
    refine g_icmpge (pc := 19) (tgt := 42) (dd d_Int_stringSize 15 rfl) (by decide) (fun q => absurd ((nI_leI (by omega) (by omega)).mp q) (by omega)) (fun _ => ?_)
    refine g_iload_n (pc := 22) (dd d_Int_stringSize 16 rfl) rfl ?_
    refine g_iload_n (pc := 23) (dd d_Int_stringSize 17 rfl) rfl ?_
    refine g_icmple (pc := 24) (tgt := 31) (dd d_Int_stringSize 18 rfl) (by decide) (fun q => ?_) (fun q => ?_)
    · rw [Int32.le_iff_toInt_le, hy, hp] at q
      refine g_bipush (pc := 31) (v := nI 10) (dd d_Int_stringSize 23 rfl) (by decide) ?_
      refine g_iload_n (pc := 33) (dd d_Int_stringSize 24 rfl) rfl ?_
      refine g_imul (pc := 34) (dd d_Int_stringSize 25 rfl) ?_
      refine g_istore_n (pc := 35) (dd d_Int_stringSize 26 rfl) (by decide) ?_
      refine g_iinc (pc := 36) (dd d_Int_stringSize 27 rfl) rfl (by decide) ?_
      refine g_goto (pc := 39) (tgt := 16) (dd d_Int_stringSize 28 rfl) (by decide) ?_
      have e1 : nI i + Int32.ofInt 1 = nI (i + 1) := nI_add i 1
      rw [e1]
      refine ih (i + 1) (nI 10 * p) (by omega) (by omega) (Or.inr (by rw [Nat.add_sub_cancel]; omega)) (fun h9 => ?_)
      obtain ⟨X, hX⟩ : ∃ X : Nat, X = 10 ^ i := ⟨_, rfl⟩
      have hb : X ≤ 100000000 := by
        rw [hX]
        exact Nat.le_trans (Nat.pow_le_pow_right (by decide) (show i ≤ 8 by omega)) (by decide)
      have hp' : p.toInt = -(X : Int) := by
        rw [hX]
        exact hp
      have hX1 : (10 : Nat) ^ (i + 1) = X * 10 := by
        rw [Nat.pow_succ, hX]
      rw [hX1, Int32.toInt_mul, hp', nI_toInt (by decide), Int.bmod_eq_of_le (by omega) (by omega)]
      omega
    · rw [Int32.le_iff_toInt_le, hy, hp] at q
      refine g_iload_n (pc := 27) (dd d_Int_stringSize 19 rfl) rfl ?_
      refine g_iload_n (pc := 28) (dd d_Int_stringSize 20 rfl) rfl ?_
      refine g_iadd (pc := 29) (dd d_Int_stringSize 21 rfl) ?_
      have hl : (dg a).length = i := by
        have := dg_len (i - 1) a (by
          rcases h2 with h2 | h2
          · exact Or.inl (by omega)
          · exact Or.inr h2) (by rw [show i - 1 + 1 = i by omega]; omega)
        omega
      rw [hl] at hT
      exact g_iret (pc := 30) rfl (dd d_Int_stringSize 22 rfl) hT
end SizeRun
theorem ev_strSize {Δ : Dx} {n : Nat} {σ : St} {x : Int32} : EvN Δ 0 m_Int_stringSize n [.int x] σ (some (.int (nI (dS x).length))) n σ 0 0 := by
  refine ev_of (by decide) (Nat.le_of_ble_eq_true rfl) (fun Γ hk hR hT => ?_)
  refine g_iconst (pc := 0) (v := nI 1) (dd d_Int_stringSize 0 rfl) (by decide) ?_
  refine g_istore_n (pc := 1) (dd d_Int_stringSize 1 rfl) (by decide) ?_
  refine g_iload_n (pc := 2) (dd d_Int_stringSize 2 rfl) rfl ?_
  refine g_iflt (pc := 3) (tgt := 11) (dd d_Int_stringSize 3 rfl) (by decide) (fun q => ?_) (fun q => ?_)
  · refine g_bipush (pc := 11) (v := -10) (dd d_Int_stringSize 9 rfl) (by decide) ?_
    refine g_istore_n (pc := 13) (dd d_Int_stringSize 10 rfl) (by decide) ?_
    refine g_iconst (pc := 14) (v := nI 1) (dd d_Int_stringSize 11 rfl) (by decide) ?_
    refine g_istore_n (pc := 15) (dd d_Int_stringSize 12 rfl) (by decide) ?_
    refine ss_loop (a := dA x) (d := nI 1) ?_ (neg_n q) (dA_le x) 9 1 (-10) rfl (Nat.le_refl _) (Or.inl rfl) (fun _ => by decide)
    rw [nI_add]
    unfold dS at hT
    rw [if_pos q] at hT
    exact hT
  · refine g_iconst (pc := 6) (v := nI 0) (dd d_Int_stringSize 4 rfl) (by decide) ?_
    refine g_istore_n (pc := 7) (dd d_Int_stringSize 5 rfl) (by decide) ?_
    refine g_iload_n (pc := 8) (dd d_Int_stringSize 6 rfl) rfl ?_
    refine g_ineg (pc := 9) (dd d_Int_stringSize 7 rfl) ?_
    refine g_istore_n (pc := 10) (dd d_Int_stringSize 8 rfl) (by decide) ?_
    refine g_bipush (pc := 11) (v := -10) (dd d_Int_stringSize 9 rfl) (by decide) ?_
    refine g_istore_n (pc := 13) (dd d_Int_stringSize 10 rfl) (by decide) ?_
    refine g_iconst (pc := 14) (v := nI 1) (dd d_Int_stringSize 11 rfl) (by decide) ?_
    refine g_istore_n (pc := 15) (dd d_Int_stringSize 12 rfl) (by decide) ?_
    refine ss_loop (a := dA x) (d := nI 0) ?_ (neg_p q) (dA_le x) 9 1 (-10) rfl (Nat.le_refl _) (Or.inl rfl) (fun _ => by decide)
    rw [nI_add]
    unfold dS at hT
    rw [if_neg q] at hT
    exact hT
