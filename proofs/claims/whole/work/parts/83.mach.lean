/-! the machine at hand while an instruction is tried, part by part; state and blame aside -/
def Q1 (C : IM) (m : Nat) (R : IM) : Prop := (∀ k, k < 64 → C (m + 1) k = R A_code k ∧ C (m + 2) k = R A_codeTags k) ∧ (∀ k, k < 96 → C (m + 3) k = R A_ints k ∧ C (m + 4) k = R A_held k ∧ C (m + 5) k = R A_owners k) ∧ (∀ k, k < 8 → C (m + 6) k = R A_registers k ∧ C (m + 7) k = R A_registerTags k) ∧ C (m + 6) 8 = R MO 42 ∧ C (m + 7) 8 = R MO 43
def Q2 (C : IM) (m : Nat) (R : IM) : Prop := C m 0 = R MO 34 ∧ C m 1 = R MO 44 ∧ C (m + 13) 1 = R MO 48 ∧ C (m + 13) 2 = R MO 51 ∧ C (m + 13) 3 = R MO 53 ∧ C (m + 13) 4 = R MO 54 ∧ C (m + 13) 5 = R MO 45 ∧ C (m + 13) 6 = R MO 52 ∧ C (m + 13) 7 = R MO 55
def Q3 (C : IM) (m : Nat) (R : IM) : Prop := 0 ≤ (R MO 45).toInt ∧ (R MO 45).toInt ≤ 16 ∧ ∀ k : Nat, (k : Int) < (R MO 45).toInt → C (m + 8) k = R A_inputValues k ∧ C (m + 9) k = R A_inputTags k
def Q4 (b : Nat) (C : IM) (m : Nat) (R : IM) : Prop := 0 ≤ (R MO 48).toInt ∧ (R MO 48).toInt ≤ b ∧ ∀ k : Nat, k < 40 → (k : Int) < (R MO 48).toInt → C (m + 10) k = R A_output k
def Q5 (C : IM) (m : Nat) (R : IM) : Prop := 0 ≤ (R MO 55).toInt ∧ (R MO 55).toInt ≤ 60 ∧ ∀ k : Nat, (k : Int) < (R MO 55).toInt → C (m + 11) k = R A_firsts k ∧ C (m + 12) k = R A_seconds k
def Q6 (C : IM) (m : Nat) (R : IM) : Prop := ∀ k, k < 88 → C (m + 14) k = R A_counts k
def Q8 (tl : Int32 → Nat → Prop) (C : IM) (m : Nat) (R : IM) : Prop := C (m + 15) 0 = R MO 58 ∧ 0 ≤ (R MO 58).toInt ∧ (R MO 58).toInt ≤ 8 ∧ 0 ≤ (R MO 59).toInt ∧ (R MO 59).toInt < 8 ∧ C (m + 15) 1 = (if R MO 58 = 8 then R MO 59 else 0) ∧ (¬ R MO 58 = 8 → R MO 59 = R MO 58) ∧ ∀ q : Nat, (q : Int) < (R MO 58).toInt → C (m + 16) (25 * q) = R A_cache (16 * q) ∧ (∀ j, j < 15 → C (m + 16) (25 * q + 10 + j) = R A_cache (16 * q + 1 + j)) ∧ (0 ≤ (R A_cache (16 * q)).toInt ∧ (R A_cache (16 * q)).toInt < 22 ∧ tl (R A_cache (16 * q)) 0 ∧ ∀ p : Nat, p < q → ¬ ∀ j, j < 16 → R A_cache (16 * p + j) = R A_cache (16 * q + j)) ∧ C (m + 16) (25 * q + 1) = R A_answers (5 * q) ∧ (R A_answers (5 * q) = 0 ∨ R A_answers (5 * q) = 3) ∧ (∀ j, j < 3 → (R A_answers (5 * q) = 0 → tl (R A_cache (16 * q)) (51 + j) → C (m + 16) (25 * q + 2 + j) = R A_answers (5 * q + 1 + j)) ∧ ((R A_answers (5 * q) = 3 ∨ ¬ tl (R A_cache (16 * q)) (51 + j)) → C (m + 16) (25 * q + 2 + j) = 0)) ∧ (R A_answers (5 * q) = 0 → C (m + 16) (25 * q + 5) = -1) ∧ (R A_answers (5 * q) = 3 → C (m + 16) (25 * q + 5) = R A_answers (5 * q + 4))
def Q9 (b : Nat) (C : IM) (m : Nat) (R : IM) : Prop := 0 ≤ (R MO 63).toInt ∧ (R MO 63).toInt ≤ b ∧ C (m + 17) 0 = (if R MO 63 < 16 then R MO 63 else 16) ∧ (C (m + 17) 1).toInt = (if R MO 63 < 16 then 0 else (R MO 63).toInt % 16) ∧ ∀ k : Nat, k < 96 → (k : Int) < 6 * (R MO 63).toInt → C (m + 18) k = R A_entries k
def QC (C : IM) (m : Nat) : Prop := C (m + 15) 2 = 8 ∧ C (m + 15) 3 = 25 ∧ C (m + 17) 2 = 16 ∧ C (m + 17) 3 = 6
def QA (b : Nat) (tl : Int32 → Nat → Prop) (C : IM) (m : Nat) (R : IM) : Prop := Q1 C m R ∧ Q2 C m R ∧ Q3 C m R ∧ Q4 b C m R ∧ Q5 C m R ∧ Q6 C m R ∧ Q8 tl C m R ∧ Q9 b C m R ∧ QC C m
theorem QA_of {t b : Nat} {tl : Int32 → Nat → Prop} {C R : IM} {m : Nat} (hb : 2000 * t ≤ b) (hc : C (m + 15) 2 = 8 ∧ C (m + 15) 3 = 25 ∧ C (m + 17) 2 = 16 ∧ C (m + 17) 3 = 6) (h : RM t tl C m (curM R)) : QA b tl C m R := by
  obtain ⟨h1, ⟨a0, a1, a2, a3, a4, a5, a6, a7, a8, a9⟩, h3, ⟨b1, b2, b3⟩, h5, h6, h7, h8, ⟨c1, c2, c3⟩⟩ := h
  have b2' : (R MO 48).toInt ≤ 2000 * (t : Int) := b2
  have c2' : (R MO 63).toInt ≤ 2000 * (t : Int) := c2
  exact ⟨h1, ⟨a0, a1, a3, a4, a5, a6, a7, a8, a9⟩, h3, ⟨b1, by omega, b3⟩, h5, h6, h8, ⟨c1, by omega, c3⟩, hc⟩
theorem RM_of {t b : Nat} {tl : Int32 → Nat → Prop} {C R : IM} {m : Nat} (hb : b ≤ 2000 * t) (h : QA b tl C m R) (h0 : C (m + 13) 0 = R MO 50) (h7 : C m 2 = if R MO 50 = 3 then R MO 66 else -1) : RM t tl C m (curM R) := by
  obtain ⟨h1, ⟨a0, a1, a3, a4, a5, a6, a7, a8, a9⟩, h3, ⟨b1, b2, b3⟩, h5, h6, h8, ⟨c1, c2, c3⟩, hc⟩ := h
  have b2' : (R MO 48).toInt ≤ 2000 * (t : Int) := by omega
  have c2' : (R MO 63).toInt ≤ 2000 * (t : Int) := by omega
  exact ⟨h1, ⟨a0, a1, h0, a3, a4, a5, a6, a7, a8, a9⟩, h3, ⟨b1, b2', b3⟩, h5, h6, h7, h8, ⟨c1, c2', c3⟩⟩
theorem Q1_c {C C' R R' : IM} {m : Nat} (h : Q1 C m R) (hc : ∀ i, 1 ≤ i → i < 8 → C' (m + i) = C (m + i)) (hr : ∀ b, 119 ≤ b → b < 126 → R' b = R b) (h42 : R' MO 42 = R MO 42) (h43 : R' MO 43 = R MO 43) : Q1 C' m R' := by
  unfold Q1 at h ⊢
  rw [hc 1 (by decide) (by decide), hc 2 (by decide) (by decide), hc 3 (by decide) (by decide), hc 4 (by decide) (by decide), hc 5 (by decide) (by decide), hc 6 (by decide) (by decide), hc 7 (by decide) (by decide), hr A_code (by decide) (by decide), hr A_codeTags (by decide) (by decide), hr A_ints (by decide) (by decide), hr A_held (by decide) (by decide), hr A_owners (by decide) (by decide), hr A_registers (by decide) (by decide), hr A_registerTags (by decide) (by decide), h42, h43]
  exact h
theorem Q3_c {C C' R R' : IM} {m : Nat} (h : Q3 C m R) (e8 : C' (m + 8) = C (m + 8)) (e9 : C' (m + 9) = C (m + 9)) (r1 : R' A_inputValues = R A_inputValues) (r2 : R' A_inputTags = R A_inputTags) (h45 : R' MO 45 = R MO 45) : Q3 C' m R' := by
  unfold Q3 at h ⊢
  rw [e8, e9, r1, r2, h45]
  exact h
theorem Q4_c {b b' : Nat} {C C' R R' : IM} {m : Nat} (hb : b ≤ b') (h : Q4 b C m R) (e : C' (m + 10) = C (m + 10)) (r1 : R' A_output = R A_output) (h48 : R' MO 48 = R MO 48) : Q4 b' C' m R' := by
  unfold Q4 at h ⊢
  rw [e, r1, h48]
  exact ⟨h.1, by have := h.2.1; omega, h.2.2⟩
theorem Q5_c {C C' R R' : IM} {m : Nat} (h : Q5 C m R) (e8 : C' (m + 11) = C (m + 11)) (e9 : C' (m + 12) = C (m + 12)) (r1 : R' A_firsts = R A_firsts) (r2 : R' A_seconds = R A_seconds) (h55 : R' MO 55 = R MO 55) : Q5 C' m R' := by
  unfold Q5 at h ⊢
  rw [e8, e9, r1, r2, h55]
  exact h
theorem Q6_c {C C' R R' : IM} {m : Nat} (h : Q6 C m R) (e : C' (m + 14) = C (m + 14)) (r : R' A_counts = R A_counts) : Q6 C' m R' := by
  unfold Q6 at h ⊢
  rw [e, r]
  exact h
theorem Q6_i {C R : IM} {m k : Nat} (hk : k < 88) (h : Q6 C m R) : Q6 (up C (m + 14) k (C (m + 14) k + 1)) m (up R A_counts k (R A_counts k + 1)) := by
  intro j hj
  by_cases q : j = k
  · rw [q, up_self, up_self, h k hk]
  · rw [up_ne (Or.inr q), up_ne (Or.inr q)]
    exact h j hj
theorem Q8_c {tl : Int32 → Nat → Prop} {C C' R R' : IM} {m : Nat} (h : Q8 tl C m R) (e0 : C' (m + 15) 0 = C (m + 15) 0) (e1 : C' (m + 15) 1 = C (m + 15) 1) (e2 : C' (m + 16) = C (m + 16)) (r1 : R' A_cache = R A_cache) (r2 : R' A_answers = R A_answers) (h58 : R' MO 58 = R MO 58) (h59 : R' MO 59 = R MO 59) : Q8 tl C' m R' := by
  unfold Q8 at h ⊢
  rw [e0, e1, e2, r1, r2, h58, h59]
  exact h
theorem Q9_c {b b' : Nat} {C C' R R' : IM} {m : Nat} (hb : b ≤ b') (h : Q9 b C m R) (e0 : C' (m + 17) = C (m + 17)) (e2 : C' (m + 18) = C (m + 18)) (r1 : R' A_entries = R A_entries) (h63 : R' MO 63 = R MO 63) : Q9 b' C' m R' := by
  unfold Q9 at h ⊢
  rw [e0, e2, r1, h63]
  exact ⟨h.1, by have := h.2.1; omega, h.2.2⟩
theorem Q5_PP {C R : IM} {m : Nat} (h : Q5 C m R) (h2 : C (m + 13) 7 = R MO 55) : PP m C R := by
  obtain ⟨a, b, c⟩ := h
  have n0 : ¬ R MO 55 < 0 := by rw [ti]; simp only [Int32.reduceToInt]; omega
  have e := nof n0
  have e2 := nat_of n0
  exact ⟨(R MO 55).toNatClampNeg, by omega, by rw [h2]; exact e, e, fun k hk => c k (by omega)⟩
theorem PP_Q5 {C R : IM} {m : Nat} (h : PP m C R) : Q5 C m R ∧ C (m + 13) 7 = R MO 55 := by
  obtain ⟨np, a, b, c, d⟩ := h
  refine ⟨⟨?_, ?_, fun k hk => ?_⟩, by rw [b, c]⟩
  · rw [c, nI_toInt (by omega)]; omega
  · rw [c, nI_toInt (by omega)]; omega
  · rw [c, nI_toInt (by omega)] at hk
    exact d k (by omega)
