/-! policy: the call -/
theorem swL {n : Nat} : ∀ (d f j : Nat) (R : IM), j + d = 900 → d < f → ∃ R', l_Mod_swapTexts_2 n f (nI j) R = some R' ∧ (∀ i, j ≤ i → i < 900 → R' A_signs i = R A_kept i ∧ R' A_kept i = R A_signs i) ∧ (∀ i, i < j → R' A_signs i = R A_signs i ∧ R' A_kept i = R A_kept i) ∧ R' MO 2 = R MO 32 ∧ R' MO 32 = R MO 2 ∧ (∀ i, i ≠ 2 → i ≠ 32 → R' MO i = R MO i) ∧ ∀ b, b ≠ 102 → b ≠ 103 → b ≠ 118 → R' b = R b
  | 0, f, j, R, h, hf => by
    obtain ⟨g, rfl⟩ : ∃ g, f = g + 1 := ⟨f - 1, by omega⟩
    obtain rfl : j = 900 := by omega
    refine ⟨up (up R MO 2 (R MO 32)) MO 32 (R MO 2), ?_, fun i h1 h2 => absurd h1 (by omega), fun i hi => ⟨?_, ?_⟩, ?_, up_self, fun i z1 z2 => ?_, fun b z1 _ _ => ?_⟩
    · rw [l_Mod_swapTexts_2, if_pos (by decide), lt, lt]
    · rw [fu (by decide), fu (by decide)]
    · rw [fu (by decide), fu (by decide)]
    · rw [up_ne (Or.inr (by decide)), up_self]
    · rw [up_ne (Or.inr z2), up_ne (Or.inr z1)]
    · rw [fu z1, fu z1]
  | d + 1, f, j, R, h, hf => by
    obtain ⟨g, rfl⟩ : ∃ g, f = g + 1 := ⟨f - 1, by omega⟩
    have n9 : ¬ (900 : Int32) ≤ nI j := nk (N := 900) (by omega) (by decide)
    obtain ⟨D, hD⟩ : ∃ D, D = up (up R A_signs j (R A_kept j)) A_kept j (R A_signs j) := ⟨_, rfl⟩
    obtain ⟨R', a1, a2, a3, a4, a5, a6, a7⟩ := swL (n := n) d g (j + 1) D (by omega) (by omega)
    have m : D MO = R MO := by rw [hD, fu (by decide), fu (by decide)]
    have s : ∀ i, i ≠ j → D A_signs i = R A_signs i ∧ D A_kept i = R A_kept i := fun i hi => by
      rw [hD]
      exact ⟨by rw [fu (by decide), up_ne (Or.inr hi)], by rw [up_ne (Or.inr hi), fu (by decide)]⟩
    refine ⟨R', ?_, fun i h1 h2 => ?_, fun i hi => ?_, by rw [a4, m], by rw [a5, m], fun i z1 z2 => by rw [a6 i z1 z2, m], fun b z1 z2 z3 => by rw [a7 b z1 z2 z3, hD, fu z3, fu z2]⟩
    · rw [l_Mod_swapTexts_2, if_neg n9, chk_i (show inb (nI j) 900 from nki (by omega) (by decide)), nkc (by omega), lt, lt, ← hD, nk1, a1]
    · by_cases e : i = j
      · subst e
        rw [(a3 i (by omega)).1, (a3 i (by omega)).2, hD]
        exact ⟨by rw [fu (by decide), up_self], by rw [up_self]⟩
      · obtain ⟨x, y⟩ := a2 i (by omega) h2
        rw [x, y, (s i e).1, (s i e).2]
        exact ⟨rfl, rfl⟩
    · rw [(a3 i (by omega)).1, (a3 i (by omega)).2]; exact s i (by omega)
theorem kpL {n : Nat} {J : JM} : ∀ (d f j : Nat) (R : IM), j + d = 900 → d < f → ∃ R', l_Mod_policy_34 n J f (nI j) R = l_Mod_policy_90 n J n 9 R' ∧ (∀ i, j ≤ i → i < 900 → R' A_kept i = R A_signs i) ∧ (∀ i, i < j → R' A_kept i = R A_kept i) ∧ R' MO 32 = R MO 2 ∧ R' MO 53 = 0 ∧ R' MO 54 = 0 ∧ R' MO 58 = 0 ∧ R' MO 59 = 0 ∧ (∀ i, i ∉ [32, 53, 54, 58, 59] → R' MO i = R MO i) ∧ ∀ b, b ≠ 102 → b ≠ 118 → R' b = R b
  | 0, f, j, R, h, hf => by
    obtain ⟨g, rfl⟩ : ∃ g, f = g + 1 := ⟨f - 1, by omega⟩
    obtain rfl : j = 900 := by omega
    refine ⟨up (up (up (up (up R MO 32 (R MO 2)) MO 58 0) MO 59 0) MO 53 0) MO 54 0, ?_, fun i h1 h2 => absurd h1 (by omega), fun i hi => ?_, ?_, ?_, up_self, ?_, ?_, fun i z => ?_, fun b z1 _ => ?_⟩
    · rw [l_Mod_policy_34, if_pos (by decide), lt, lt, lt, lt, lt]
    · rw [fu (by decide), fu (by decide), fu (by decide), fu (by decide), fu (by decide)]
    · rw [up_ne (Or.inr (by decide)), up_ne (Or.inr (by decide)), up_ne (Or.inr (by decide)), up_ne (Or.inr (by decide)), up_self]
    · rw [up_ne (Or.inr (by decide)), up_self]
    · rw [up_ne (Or.inr (by decide)), up_ne (Or.inr (by decide)), up_ne (Or.inr (by decide)), up_self]
    · rw [up_ne (Or.inr (by decide)), up_ne (Or.inr (by decide)), up_self]
    · simp only [List.mem_cons, List.not_mem_nil, or_false, not_or] at z
      rw [up_ne (Or.inr z.2.2.1), up_ne (Or.inr z.2.1), up_ne (Or.inr z.2.2.2.2), up_ne (Or.inr z.2.2.2.1), up_ne (Or.inr z.1)]
    · rw [fu z1, fu z1, fu z1, fu z1, fu z1]
  | d + 1, f, j, R, h, hf => by
    obtain ⟨g, rfl⟩ : ∃ g, f = g + 1 := ⟨f - 1, by omega⟩
    have n9 : ¬ (900 : Int32) ≤ nI j := nk (N := 900) (by omega) (by decide)
    obtain ⟨D, hD⟩ : ∃ D, D = up R A_kept j (R A_signs j) := ⟨_, rfl⟩
    obtain ⟨R', a1, a2, a3, a4, a5, a6, a7, a8, a9, a10⟩ := kpL (n := n) (J := J) d g (j + 1) D (by omega) (by omega)
    have m : D MO = R MO := by rw [hD, fu (by decide)]
    have sg : D A_signs = R A_signs := by rw [hD, fu (by decide)]
    refine ⟨R', ?_, fun i h1 h2 => ?_, fun i hi => ?_, by rw [a4, m], a5, a6, a7, a8, fun i z => by rw [a9 i z, m], fun b z1 z2 => by rw [a10 b z1 z2, hD, fu z2]⟩
    · rw [l_Mod_policy_34, if_neg n9, chk_i (show inb (nI j) 900 from nki (by omega) (by decide)), nkc (by omega), lt, ← hD, nk1, a1]
    · by_cases e : i = j
      · subst e; rw [a3 i (by omega), hD, up_self]
      · rw [a2 i (by omega) h2, sg]
    · rw [a3 i (by omega), hD, up_ne (Or.inr (by omega))]
def z90 (R : IM) (x : Nat) : IM := up R A_other x (if x = 9 ∨ x = 10 ∨ x = 12 ∨ x = 13 then 0 else R A_other x)
theorem st90 {n f x : Nat} {J : JM} {R : IM} (h9 : 9 ≤ x) (hx : x < 16) : l_Mod_policy_90 n J (f + 1) (nI x) R = l_Mod_policy_90 n J f (nI (x + 1)) (z90 R x) := by
  have c : x = 9 ∨ x = 10 ∨ x = 11 ∨ x = 12 ∨ x = 13 ∨ x = 14 ∨ x = 15 := by omega
  unfold z90
  rcases c with rfl | rfl | rfl | rfl | rfl | rfl | rfl
  · rw [l_Mod_policy_90, if_neg (by decide), if_pos (by decide), b_Mod_policy_125, b_Mod_policy_135, chk_i (by decide), lt, nk1, if_pos (by decide)]
    rfl
  · rw [l_Mod_policy_90, if_neg (by decide), if_neg (by decide), if_pos (by decide), b_Mod_policy_125, b_Mod_policy_135, chk_i (by decide), lt, nk1, if_pos (by decide)]
    rfl
  · rw [l_Mod_policy_90, if_neg (by decide), if_neg (by decide), if_neg (by decide), if_neg (by decide), if_neg (by decide), chk_i (by decide), b_Mod_policy_135, chk_i (by decide), lt, nk1, if_neg (by decide)]
    rfl
  · rw [l_Mod_policy_90, if_neg (by decide), if_neg (by decide), if_neg (by decide), if_pos (by decide), b_Mod_policy_125, b_Mod_policy_135, chk_i (by decide), lt, nk1, if_pos (by decide)]
    rfl
  · rw [l_Mod_policy_90, if_neg (by decide), if_neg (by decide), if_neg (by decide), if_neg (by decide), if_pos (by decide), b_Mod_policy_125, b_Mod_policy_135, chk_i (by decide), lt, nk1, if_pos (by decide)]
    rfl
  · rw [l_Mod_policy_90, if_neg (by decide), if_neg (by decide), if_neg (by decide), if_neg (by decide), if_neg (by decide), chk_i (by decide), b_Mod_policy_135, chk_i (by decide), lt, nk1, if_neg (by decide)]
    rfl
  · rw [l_Mod_policy_90, if_neg (by decide), if_neg (by decide), if_neg (by decide), if_neg (by decide), if_neg (by decide), chk_i (by decide), b_Mod_policy_135, chk_i (by decide), lt, nk1, if_neg (by decide)]
    rfl
theorem z90_o {R : IM} {x b : Nat} (h : b ≠ 139) : z90 R x b = R b := fu h
theorem z90_j {R : IM} {x j : Nat} : z90 R x A_other j = if j = x ∧ (x = 9 ∨ x = 10 ∨ x = 12 ∨ x = 13) then 0 else R A_other j := by
  unfold z90
  by_cases e : j = x
  · subst e
    rw [up_self]
    by_cases z : j = 9 ∨ j = 10 ∨ j = 12 ∨ j = 13
    · rw [if_pos z, if_pos ⟨rfl, z⟩]
    · rw [if_neg z, if_neg (fun y => z y.2)]
  · rw [up_ne (Or.inr e), if_neg (fun y => e y.1)]
theorem ot90 {n : Nat} {J : JM} {R : IM} (hn : 1000 ≤ n) : ∃ R', l_Mod_policy_90 n J n 9 R = some (-1, R') ∧ R' A_other 9 = 0 ∧ R' A_other 10 = 0 ∧ R' A_other 12 = 0 ∧ R' A_other 13 = 0 ∧ (∀ j, j ≠ 9 → j ≠ 10 → j ≠ 12 → j ≠ 13 → R' A_other j = R A_other j) ∧ ∀ b, b ≠ 139 → R' b = R b := by
  obtain ⟨g, hg⟩ : ∃ g, n = g + 1 + 1 + 1 + 1 + 1 + 1 + 1 + 1 := ⟨n - 8, by omega⟩
  have e : l_Mod_policy_90 n J n 9 R = l_Mod_policy_90 n J (g + 1 + 1 + 1 + 1 + 1 + 1 + 1 + 1) (nI 9) R := congrArg (fun z => l_Mod_policy_90 n J z 9 R) hg
  refine ⟨z90 (z90 (z90 (z90 (z90 (z90 (z90 R 9) 10) 11) 12) 13) 14) 15, ?_, ?_, ?_, ?_, ?_, fun j z1 z2 z3 z4 => ?_, fun b hb => ?_⟩
  · rw [e, st90 (by decide) (by decide), st90 (by decide) (by decide), st90 (by decide) (by decide), st90 (by decide) (by decide), st90 (by decide) (by decide), st90 (by decide) (by decide), st90 (by decide) (by decide), l_Mod_policy_90, if_pos (by decide)]
  · simp [z90_j]
  · simp [z90_j]
  · simp [z90_j]
  · simp [z90_j]
  · simp [z90_j, z1, z2, z3, z4]
  · rw [z90_o hb, z90_o hb, z90_o hb, z90_o hb, z90_o hb, z90_o hb, z90_o hb]
/-- the kept policy's tables lie beyond what is read -/
theorem PR_w {B : AP} {R R' : IM} (h : RFw R R') (p : PR B 22 301 300 1000 R) : PR B 22 301 300 1000 R' := by
  obtain ⟨p1, p2, p3, p4⟩ := p
  obtain ⟨-, h2, h3, h4, h5, -⟩ := h
  refine ⟨fun k hk => ?_, fun q hq => ?_, fun s hs => ?_, fun i hi => ?_⟩
  · rw [h4 (22 + k) (by omega)]; exact p1 k hk
  · obtain ⟨a, b, c⟩ := h5 (301 + q) (by omega)
    rw [a, b, c]; exact p2 q hq
  · obtain ⟨a, b, c⟩ := h3 (300 + s) (by omega)
    rw [a, b, c]; exact p3 s hs
  · obtain ⟨a, b⟩ := h2 (1000 + i) (by omega)
    rw [a, b]; exact p4 i hi
/-- what a kept text says of the policy at hand -/
def ktP (T : Nat → Int32) (x : Int32) (A : AP) : Prop := ∃ N, x = nI N ∧ VT T N ∧ ∀ n, n = 1000 → RPs T N n A
theorem ktP_c {T T' : Nat → Int32} {x : Int32} {N : Nat} {A : AP} (hx : x = nI N) (vt : VT T N) (h : ∀ n, n = 1000 → RPs T N n A) (e : ∀ k, k < N → T' k = T k) : ktP T' x A := by
  refine ⟨N, hx, ⟨vt.1, fun k hk => by rw [e k hk]; exact vt.2 k hk⟩, fun n hn J hJ R tr => h n hn J hJ R ⟨tr.1, fun k hk => by rw [tr.2 k hk, e k hk]⟩⟩
/-- a machine whose answers are forgotten -/
def fgI (I : IM) (m : Nat) : IM := up (up (up (up I (m + 15) 0 0) (m + 15) 1 0) (m + 13) 3 0) (m + 13) 4 0
theorem fg_f {I : IM} {m : Nat} : f_Mch_forgetAnswers m I = some (fgI I m) := by
  rw [f_Mch_forgetAnswers, f_Rng_empty, lt, lt, Option.bind_some, lt, lt]
  rfl
theorem fg_o {I : IM} {m b : Nat} (h1 : b ≠ m + 13) (h2 : b ≠ m + 15) : fgI I m b = I b := by
  unfold fgI
  rw [fu h1, fu h1, fu h2, fu h2]
theorem fg_13 {I : IM} {m : Nat} : fgI I m (m + 13) 3 = 0 ∧ fgI I m (m + 13) 4 = 0 ∧ ∀ j, j ≠ 3 → j ≠ 4 → fgI I m (m + 13) j = I (m + 13) j := by
  unfold fgI
  refine ⟨by rw [up_ne (Or.inr (by decide)), up_self], up_self, fun j z1 z2 => ?_⟩
  rw [up_ne (Or.inr z2), up_ne (Or.inr z1), fu (by omega), fu (by omega)]
theorem fg_15 {I : IM} {m : Nat} : fgI I m (m + 15) 0 = 0 ∧ fgI I m (m + 15) 1 = 0 ∧ ∀ j, j ≠ 0 → j ≠ 1 → fgI I m (m + 15) j = I (m + 15) j := by
  unfold fgI
  refine ⟨by rw [fu (by omega), fu (by omega), up_ne (Or.inr (by decide)), up_self], by rw [fu (by omega), fu (by omega), up_self], fun j z1 z2 => ?_⟩
  rw [fu (by omega), fu (by omega), up_ne (Or.inr z2), up_ne (Or.inr z1)]
theorem RM_fg {t : Nat} {tl tl' : Int32 → Nat → Prop} {I I' : IM} {m : Nat} {s s' : MS} (h : RM t tl I m s) (c : ∀ i, i < 19 → i ≠ 13 → i ≠ 15 → I' (m + i) = I (m + i)) (c13 : ∀ j, j ≠ 3 → j ≠ 4 → I' (m + 13) j = I (m + 13) j) (z3 : I' (m + 13) 3 = 0) (z4 : I' (m + 13) 4 = 0) (z0 : I' (m + 15) 0 = 0) (z1 : I' (m + 15) 1 = 0) (s1 : ∀ j, j < 16 → j ≠ 9 → j ≠ 10 → j ≠ 12 → j ≠ 13 → s'.1 j = s.1 j) (s9 : s'.1 9 = 0) (s10 : s'.1 10 = 0) (s12 : s'.1 12 = 0) (s13 : s'.1 13 = 0) (s2 : ∀ j, j < 16 → s'.2 j = s.2 j) : RM t tl' I' m s' := by
  obtain ⟨h1, h2, h3, h4, h5, h6, h7, h8, h9⟩ := h
  have e0 : I' m = I m := c 0 (by decide) (by decide) (by decide)
  refine ⟨?_, ?_, ?_, ?_, ?_, ?_, ?_, ?_, ?_⟩
  · unfold R1 at h1 ⊢
    rw [c 1 (by decide) (by decide) (by decide), c 2 (by decide) (by decide) (by decide), c 3 (by decide) (by decide) (by decide), c 4 (by decide) (by decide) (by decide), c 5 (by decide) (by decide) (by decide), c 6 (by decide) (by decide) (by decide), c 7 (by decide) (by decide) (by decide), s2 0 (by decide), s2 1 (by decide), s2 2 (by decide), s2 3 (by decide), s2 4 (by decide), s2 5 (by decide), s2 6 (by decide), s1 1 (by decide) (by decide) (by decide) (by decide) (by decide), s1 2 (by decide) (by decide) (by decide) (by decide) (by decide)]
    exact h1
  · unfold R2 at h2 ⊢
    rw [e0, c13 0 (by decide) (by decide), c13 1 (by decide) (by decide), c13 2 (by decide) (by decide), z3, z4, c13 5 (by decide) (by decide), c13 6 (by decide) (by decide), c13 7 (by decide) (by decide), s9, s10, s1 0 (by decide) (by decide) (by decide) (by decide) (by decide), s1 3 (by decide) (by decide) (by decide) (by decide) (by decide), s1 6 (by decide) (by decide) (by decide) (by decide) (by decide), s1 5 (by decide) (by decide) (by decide) (by decide) (by decide), s1 7 (by decide) (by decide) (by decide) (by decide) (by decide), s1 4 (by decide) (by decide) (by decide) (by decide) (by decide), s1 8 (by decide) (by decide) (by decide) (by decide) (by decide), s1 11 (by decide) (by decide) (by decide) (by decide) (by decide)]
    exact ⟨h2.1, h2.2.1, h2.2.2.1, h2.2.2.2.1, h2.2.2.2.2.1, rfl, rfl, h2.2.2.2.2.2.2.2.1, h2.2.2.2.2.2.2.2.2.1, h2.2.2.2.2.2.2.2.2.2⟩
  · unfold R3 at h3 ⊢
    rw [c 8 (by decide) (by decide) (by decide), c 9 (by decide) (by decide) (by decide), s2 7 (by decide), s2 8 (by decide), s1 4 (by decide) (by decide) (by decide) (by decide) (by decide)]
    exact h3
  · unfold R4 at h4 ⊢
    rw [c 10 (by decide) (by decide) (by decide), s2 9 (by decide), s1 5 (by decide) (by decide) (by decide) (by decide) (by decide)]
    exact h4
  · unfold R5 at h5 ⊢
    rw [c 11 (by decide) (by decide) (by decide), c 12 (by decide) (by decide) (by decide), s2 10 (by decide), s2 11 (by decide), s1 11 (by decide) (by decide) (by decide) (by decide) (by decide)]
    exact h5
  · unfold R6 at h6 ⊢
    rw [c 14 (by decide) (by decide) (by decide), s2 15 (by decide)]
    exact h6
  · unfold R7 at h7 ⊢
    rw [e0, h7]
    have a := s1 6 (by decide) (by decide) (by decide) (by decide) (by decide)
    have b := s1 15 (by decide) (by decide) (by decide) (by decide) (by decide)
    rw [a, b]
  · unfold R8
    have i0 : ((0 : Int32)).toInt = 0 := rfl
    refine ⟨by rw [z0, s12], by rw [s12, i0]; omega, by rw [s12, i0]; omega, by rw [s13, i0]; omega, by rw [s13, i0]; omega, ?_, fun _ => by rw [s12, s13], fun q hq => ?_⟩
    · rw [z1, s12, if_neg (by decide)]
    · rw [s12, i0] at hq
      omega
  · unfold R9 at h9 ⊢
    rw [c 17 (by decide) (by decide) (by decide), c 18 (by decide) (by decide) (by decide), s2 14 (by decide), s1 14 (by decide) (by decide) (by decide) (by decide) (by decide)]
    exact h9
