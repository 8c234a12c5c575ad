/-! what the reference says: a number -/
theorem lgn {x y : Int64} : lg_cmp x y ≤ 0 ↔ x.toInt ≤ y.toInt := by
  unfold lg_cmp
  by_cases z : y < x
  · rw [if_pos z]
    rw [Int64.lt_iff_toInt_lt] at z
    exact ⟨fun q => absurd q (by decide), fun q => absurd z (by omega)⟩
  · rw [if_neg z]
    rw [Int64.lt_iff_toInt_lt] at z
    refine ⟨fun _ => by omega, fun _ => ?_⟩
    split
    · decide
    · decide
theorem dv_64 {x p : Int64} {a P : Nat} (hx : x.toInt = (a : Int)) (hp : p.toInt = (P : Int)) (ha : a < 1099511627776) : (x / p).toInt = ((a / P : Nat) : Int) := by
  rw [Int64.toInt_div, hx, hp, show ((a : Nat) : Int).tdiv (P : Int) = ((a / P : Nat) : Int) from rfl]
  have := Nat.div_le_self a P
  generalize a / P = Q at this ⊢
  exact Int.bmod_eq_of_le (by omega) (by omega)
theorem dgt_64 {y : Int64} {q : Nat} (hy : y.toInt = (q : Int)) (hq : q < 1099511627776) : (48 + (y - y / 10 * 10) : Int64).toInt32 = nI (48 + q % 10) := by
  have h1 : (y / 10).toInt = ((q / 10 : Nat) : Int) := dv_64 (P := 10) hy (by decide) hq
  have h2 : (y / 10 * 10).toInt = ((q / 10 * 10 : Nat) : Int) := by
    rw [Int64.toInt_mul, h1, show (10 : Int64).toInt = 10 from by decide, Int.bmod_eq_of_le (by omega) (by omega)]
    omega
  have h3 : (y - y / 10 * 10).toInt = ((q % 10 : Nat) : Int) := by
    rw [Int64.toInt_sub, hy, h2, Int.bmod_eq_of_le (by omega) (by omega)]
    omega
  have h4 : (48 + (y - y / 10 * 10) : Int64).toInt = ((48 + q % 10 : Nat) : Int) := by
    rw [Int64.toInt_add, h3, show (48 : Int64).toInt = 48 from by decide, Int.bmod_eq_of_le (by omega) (by omega)]
    omega
  apply Int32.toInt_inj.mp
  rw [Int64.toInt_toInt32, h4, nI_toInt (by omega)]
  exact Int.bmod_eq_of_le (by omega) (by omega)
def hiL : Nat → Nat → List Int32
  | 0, a => [nI (48 + a % 10)]
  | i + 1, a => nI (48 + a / 10 ^ (i + 1) % 10) :: hiL i a
theorem hiL_app : ∀ i a : Nat, hiL (i + 1) a = hiL i (a / 10) ++ [nI (48 + a % 10)]
  | 0, a => rfl
  | i + 1, a => by
    have ih := hiL_app i a
    show nI (48 + a / 10 ^ (i + 2) % 10) :: hiL (i + 1) a = (nI (48 + a / 10 / 10 ^ (i + 1) % 10) :: hiL i (a / 10)) ++ _
    rw [ih, Nat.div_div_eq_div_mul, show 10 * 10 ^ (i + 1) = 10 ^ (i + 2) from by rw [Nat.pow_succ 10 (i + 1), Nat.mul_comm]]
    rfl
theorem hiL_dg : ∀ i a : Nat, (i = 0 ∨ 10 ^ i ≤ a) → a < 10 ^ (i + 1) → hiL i a = dg a
  | 0, a, _, h => by
    have h' : a < 10 := by omega
    rw [dg_1 h']
    show [nI (48 + a % 10)] = _
    rw [Nat.mod_eq_of_lt h']
  | i + 1, a, h0, h => by
    have h1 : 10 ^ (i + 1) ≤ a := by
      rcases h0 with h0 | h0
      · omega
      · exact h0
    have hp : 0 < 10 ^ i := Nat.pow_pos (by decide)
    have ih := hiL_dg i (a / 10)
    rw [Nat.pow_succ] at h h1
    rw [Nat.pow_succ] at h ih
    rw [hiL_app]
    generalize 10 ^ i = X at h h1 hp ih
    rw [dg_2 (by omega), ih (Or.inr (by omega)) (by omega)]
theorem hiL_len : ∀ i a : Nat, (hiL i a).length = i + 1
  | 0, _ => rfl
  | i + 1, a => by
    show (hiL i a).length + 1 = _
    rw [hiL_len i a]
section NumSay
variable {n a : Nat} {I0 : IM} {x : Int64}
theorem say_d (hx : x.toInt = (a : Int)) (ha : a ≤ 2147483648) : ∀ (i f : Nat) (p : Int64) (I : IM) (L : List Int32), p.toInt = ((10 ^ i : Nat) : Int) → i + 1 < f → L.length + i + 1 ≤ 100 → RSa I0 L I → ∃ I', l_Mod_sayNumber_56 n f x p I = some I' ∧ RSa I0 (L ++ hiL i a) I'
  | 0, f + 2, p, I, L, hp, hf, hl, h => by
    have hp1 : p.toInt = ((1 : Nat) : Int) := hp
    obtain ⟨I1, e1, r1⟩ := say_1 (c := 48 + ((x / p) - (x / p) / 10 * 10)) h (by omega)
    have hd : (x / p).toInt = ((a : Nat) : Int) := by
      rw [dv_64 hx hp1 (by omega), Nat.div_one]
    rw [dgt_64 hd (by omega)] at r1
    have hne : ¬ p = 0 := fun q => by
      rw [q] at hp1
      exact absurd hp1 (by decide)
    refine ⟨I1, ?_, r1⟩
    rw [l_Mod_sayNumber_56, if_neg (fun q => by rw [lgn, hp1] at q; exact absurd q (by decide)), chk_i hne, e1, Option.bind_some, l_Mod_sayNumber_56, if_pos]
    rw [lgn, dv_64 (P := 10) hp1 (by decide) (by decide)]
    decide
  | i + 1, f + 1, p, I, L, hp, hf, hl, h => by
    have hP : 0 < 10 ^ (i + 1) := Nat.pow_pos (by decide)
    have hb : a / 10 ^ (i + 1) ≤ a := Nat.div_le_self _ _
    obtain ⟨I1, e1, r1⟩ := say_1 (c := 48 + ((x / p) - (x / p) / 10 * 10)) h (by omega)
    rw [dgt_64 (dv_64 hx hp (by omega)) (by omega)] at r1
    have hlim : (10 : Nat) ^ (i + 1) < 1099511627776 ∨ 1099511627776 ≤ 10 ^ (i + 1) := by omega
    have hq : (p / 10).toInt = ((10 ^ i : Nat) : Int) := by
      have hpm := Int64.toInt_lt p
      rw [Int64.toInt_div, hp, show (10 : Int64).toInt = ((10 : Nat) : Int) from by decide, show ((10 ^ (i + 1) : Nat) : Int).tdiv ((10 : Nat) : Int) = ((10 ^ (i + 1) / 10 : Nat) : Int) from rfl]
      rw [hp] at hpm
      rw [Nat.pow_succ] at hpm ⊢
      generalize 10 ^ i = X at hpm ⊢
      rw [Nat.mul_div_cancel _ (by decide)]
      exact Int.bmod_eq_of_le (by omega) (by omega)
    obtain ⟨I2, e2, r2⟩ := say_d hx ha i f (p / 10) I1 _ hq (by omega) (by rw [List.length_append]; show L.length + 1 + i + 1 ≤ 100; omega) r1
    have hne : ¬ p = 0 := fun q => by
      rw [q, show (0 : Int64).toInt = 0 from by decide] at hp
      omega
    refine ⟨I2, ?_, by rw [List.append_assoc] at r2; exact r2⟩
    rw [l_Mod_sayNumber_56, if_neg (fun q => by rw [lgn, hp, show (0 : Int64).toInt = 0 from by decide] at q; omega), chk_i hne, e1]
    exact e2
  | _, 0, _, _, _, _, hf, _, _ => absurd hf (Nat.not_lt_zero _)
  | 0, 1, _, _, _, _, hf, _, _ => absurd hf (by decide)
theorem say_s (hx : x.toInt = (a : Int)) (ha : a ≤ 2147483648) (hn : 100 ≤ n) {I : IM} {L : List Int32} (hl : L.length ≤ 80) (h : RSa I0 L I) : ∀ (k i f : Nat) (p : Int64), i + k = 9 → (i = 0 ∨ 10 ^ i ≤ a) → p.toInt = ((10 ^ i : Nat) : Int) → k < f → ∃ I', l_Mod_sayNumber_34 n f x p I = some I' ∧ RSa I0 (L ++ dg a) I'
  | k, i, 0, p, _, _, _, hf => absurd hf (Nat.not_lt_zero _)
  | k, i, f + 1, p, hi, h0, hp, hf => by
    have hP : 0 < 10 ^ i := Nat.pow_pos (by decide)
    have hb : a / 10 ^ i ≤ a := Nat.div_le_self _ _
    have hnz : ¬ p = 0 := fun q => by
      rw [q, show (0 : Int64).toInt = 0 from by decide] at hp
      omega
    rw [l_Mod_sayNumber_34, chk_i hnz]
    by_cases z : lg_cmp (x / p) 9 ≤ 0
    · rw [if_pos z]
      rw [lgn, dv_64 hx hp (by omega), show (9 : Int64).toInt = 9 from by decide] at z
      have hlt : a < 10 ^ (i + 1) := by
        rw [Nat.pow_succ]
        have : a / 10 ^ i < 10 := by omega
        have := (Nat.div_lt_iff_lt_mul hP).mp this
        rw [Nat.mul_comm]
        exact this
      obtain ⟨I', e, r⟩ := say_d (n := n) hx ha i n p I L hp (by omega) (by omega) h
      rw [hiL_dg i a h0 hlt] at r
      exact ⟨I', e, r⟩
    · rw [if_neg z]
      rw [lgn, dv_64 hx hp (by omega), show (9 : Int64).toInt = 9 from by decide] at z
      have hge : 10 ^ (i + 1) ≤ a := by
        rw [Nat.pow_succ]
        have h10 : 10 ≤ a / 10 ^ i := by omega
        have := (Nat.le_div_iff_mul_le hP).mp h10
        rw [Nat.mul_comm]
        exact this
      match k, hi, hf with
      | 0, hi, hf =>
        have e9 : i = 9 := by omega
        rw [e9] at hge
        exact absurd hge (by omega)
      | k + 1, hi, hf =>
        have hq : (10 * p).toInt = ((10 ^ (i + 1) : Nat) : Int) := by
          obtain ⟨X, hX⟩ : ∃ X : Nat, X = 10 ^ i := ⟨_, rfl⟩
          have hp' : p.toInt = (X : Int) := by
            rw [hX]
            exact hp
          have hX1 : (10 : Nat) ^ (i + 1) = X * 10 := by
            rw [Nat.pow_succ, hX]
          rw [hX1] at hge ⊢
          rw [Int64.toInt_mul, hp', show (10 : Int64).toInt = 10 from by decide, Int.bmod_eq_of_le (by omega) (by omega)]
          omega
        exact say_s hx ha hn hl h k (i + 1) f (10 * p) (by omega) (Or.inr hge) hq (by omega)
end NumSay
/-- sayNumber: a blank and the number -/
theorem say_num {n : Nat} {v : Int32} {I0 I : IM} {L : List Int32} (hn : 100 ≤ n) (h : RSa I0 L I) (hl : L.length ≤ 70) : ∃ I', f_Mod_sayNumber n v I = some I' ∧ RSa I0 (L ++ (nI 32 :: dS v)) I' := by
  obtain ⟨I1, e1, r1⟩ := say_1 (c := 32) h (by omega)
  have hv := dA_le v
  have v64 : v.toInt64.toInt = v.toInt := Int32.toInt_toInt64 v
  unfold f_Mod_sayNumber
  rw [e1, Option.bind_some]
  by_cases z : v < 0
  · have hz : ¬ (0 : Int32) ≤ v := Int32.not_le.mpr z
    obtain ⟨I2, e2, r2⟩ := say_1 (c := 45) r1 (by rw [List.length_append]; show L.length + 1 < 100; omega)
    have hx : (-v.toInt64).toInt = ((dA v : Nat) : Int) := by
      have hb := Int32.le_toInt v
      rw [Int64.toInt_neg, v64, neg_n z]
      rw [neg_n z] at hb
      rw [Int.neg_neg]
      exact Int.bmod_eq_of_le (by omega) (by omega)
    obtain ⟨I3, e3, r3⟩ := say_s (n := n) hx hv hn (by rw [List.length_append, List.length_append]; show L.length + 1 + 1 ≤ 80; omega) r2 9 0 n 1 rfl (Or.inl rfl) (by decide) (by omega)
    refine ⟨I3, ?_, ?_⟩
    · rw [if_neg hz, e2, Option.bind_some]
      unfold b_Mod_sayNumber_18 b_Mod_sayNumber_30
      rw [if_neg hz]
      exact e3
    · rw [show dS v = nI 45 :: dg (dA v) from if_pos z]
      rw [List.append_assoc, List.append_assoc] at r3
      exact r3
  · have hz : (0 : Int32) ≤ v := Int32.not_lt.mp z
    have hx : (v.toInt64).toInt = ((dA v : Nat) : Int) := by
      rw [v64]
      rw [lt0] at z
      unfold dA
      omega
    obtain ⟨I3, e3, r3⟩ := say_s (n := n) hx hv hn (by rw [List.length_append]; show L.length + 1 ≤ 80; omega) r1 9 0 n 1 rfl (Or.inl rfl) (by decide) (by omega)
    refine ⟨I3, ?_, ?_⟩
    · rw [if_pos hz]
      unfold b_Mod_sayNumber_18 b_Mod_sayNumber_30
      rw [if_pos hz]
      exact e3
    · rw [show dS v = dg (dA v) from if_neg z]
      rw [List.append_assoc] at r3
      exact r3
