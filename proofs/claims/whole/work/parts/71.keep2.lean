/-! the reference's keep, loop by loop -/
def V7 (I : IM) (k : Nat) (K : IM) : Prop := (∀ c, c ≠ A_code0 → c ≠ A_codeValue → K c = I c) ∧ (∀ j, j < 1000 → K A_code0 j = I A_code0 j ∧ K A_codeValue j = I A_codeValue j) ∧ ∀ i, i < k → K A_code0 (1000 + i) = I A_code0 i ∧ (isJ (I A_code0 i) → K A_codeValue (1000 + i) = I A_codeValue i + 1000) ∧ (¬ isJ (I A_code0 i) → K A_codeValue (1000 + i) = I A_codeValue i)
theorem V7_s {I K : IM} {k : Nat} {v : Int32} (h : V7 I k K) (h1 : isJ (I A_code0 k) → v = I A_codeValue k + 1000) (h2 : ¬ isJ (I A_code0 k) → v = I A_codeValue k) : V7 I (k + 1) (up (up K A_code0 (1000 + k) (I A_code0 k)) A_codeValue (1000 + k) v) := by
  obtain ⟨a, b, c⟩ := h
  refine ⟨fun c' q1 q2 => ?_, fun j hj => ⟨?_, ?_⟩, fun i hi => ?_⟩
  · rw [fu q2, fu q1]; exact a c' q1 q2
  · rw [up_o (by decide), up_ne (Or.inr (by omega))]; exact (b j hj).1
  · rw [up_ne (Or.inr (by omega)), up_o (by decide)]; exact (b j hj).2
  · by_cases q : i = k
    · subst q
      rw [up_o (show A_code0 ≠ A_codeValue by decide), up_self, up_self]
      exact ⟨rfl, h1, h2⟩
    · rw [up_o (show A_code0 ≠ A_codeValue by decide), up_ne (Or.inr (by omega)), up_ne (Or.inr (by omega)), up_o (show A_codeValue ≠ A_code0 by decide)]
      exact c i (by omega)
theorem kp7 {n nc : Nat} {I : IM} (hnc : nc ≤ 900) (hm : I MO 15 = nI nc) : ∀ (d f k : Nat) (K : IM), k + d = nc → d < f → V7 I k K → ∃ K', l_Mod_keep_7 n f (nI k) K = l_Mod_keep_92 n n 0 K' ∧ V7 I nc K'
  | 0, f + 1, k, K, hd, _, v => by
    have hk : k = nc := by omega
    subst hk
    have e15 : K MO 15 = nI k := by rw [v.1 MO (by decide) (by decide)]; exact hm
    exact ⟨K, by rw [l_Mod_keep_7, if_pos (by rw [e15]; exact Int32.le_refl _)], v⟩
  | d + 1, f + 1, k, K, hd, hf, v => by
    have e15 : K MO 15 = nI nc := by rw [v.1 MO (by decide) (by decide)]; exact hm
    have ea : (1000 : Int32) + nI k = nI (1000 + k) := nad (a := 1000)
    obtain ⟨b1, b2⟩ := v.2.1 k (by omega)
    have g1 : up K A_code0 (1000 + k) (I A_code0 k) A_code0 k = I A_code0 k := by rw [up_ne (Or.inr (by omega))]; exact b1
    have g2 : up K A_code0 (1000 + k) (I A_code0 k) A_codeValue k = I A_codeValue k := by rw [up_o (by decide)]; exact b2
    have hd0 : l_Mod_keep_7 n (f + 1) (nI k) K = if I A_code0 k = (303 : Int32) then (b_Mod_keep_64 n (l_Mod_keep_7 n f) (nI k) (nI (1000 + k)) (up K A_code0 (1000 + k) (I A_code0 k))) else if I A_code0 k = (302 : Int32) then (b_Mod_keep_64 n (l_Mod_keep_7 n f) (nI k) (nI (1000 + k)) (up K A_code0 (1000 + k) (I A_code0 k))) else b_Mod_keep_83 n (l_Mod_keep_7 n f) (nI k) (I A_codeValue k) (nI (1000 + k)) (up K A_code0 (1000 + k) (I A_code0 k)) := by
      rw [l_Mod_keep_7, e15, if_neg (nk (by omega) (by omega)), ea, chk_i (nki (by omega) (by decide)), chk_i (nki (by omega) (by decide)), lt, nkc (by omega), nkc (by omega), b1, g1, g2]
    by_cases j : isJ (I A_code0 k)
    · obtain ⟨K', e, v'⟩ := kp7 hnc hm d f (k + 1) _ (by omega) (by omega) (V7_s (v := I A_codeValue k + 1000) v (fun _ => rfl) (fun q => absurd j q))
      refine ⟨K', ?_, v'⟩
      rw [← e, hd0]
      have e64 : b_Mod_keep_64 n (l_Mod_keep_7 n f) (nI k) (nI (1000 + k)) (up K A_code0 (1000 + k) (I A_code0 k)) = l_Mod_keep_7 n f (nI (k + 1)) (up (up K A_code0 (1000 + k) (I A_code0 k)) A_codeValue (1000 + k) (I A_codeValue k + 1000)) := by
        rw [b_Mod_keep_64, chk_i (nki (by omega) (by decide)), b_Mod_keep_83, chk_i (nki (by omega) (by decide)), lt, nkc (by omega), nkc (by omega), g2, nk1]
      rcases j with j | j
      · rw [if_neg (by rw [j]; decide), if_pos j, e64]
      · rw [if_pos j, e64]
    · obtain ⟨K', e, v'⟩ := kp7 hnc hm d f (k + 1) _ (by omega) (by omega) (V7_s (v := I A_codeValue k) v (fun q => absurd q j) (fun _ => rfl))
      refine ⟨K', ?_, v'⟩
      rw [← e, hd0, if_neg (fun q => j (Or.inr q)), if_neg (fun q => j (Or.inl q)), b_Mod_keep_83, chk_i (nki (by omega) (by decide)), lt, nkc (by omega), nk1]
def V9 (I : IM) (k : Nat) (K : IM) : Prop := (∀ c, c ≠ A_statementKind → c ≠ A_statementFrom → c ≠ A_statementTo → K c = I c) ∧ (∀ j, j < 300 → K A_statementKind j = I A_statementKind j ∧ K A_statementFrom j = I A_statementFrom j ∧ K A_statementTo j = I A_statementTo j) ∧ ∀ i, i < k → K A_statementKind (300 + i) = I A_statementKind i ∧ K A_statementFrom (300 + i) = I A_statementFrom i + 1000 ∧ K A_statementTo (300 + i) = I A_statementTo i + 1000
theorem kp9 {n ns : Nat} {I : IM} (hns : ns ≤ 300) (hm : I MO 18 = nI ns) : ∀ (d f k : Nat) (K : IM), k + d = ns → d < f → V9 I k K → ∃ K', l_Mod_keep_92 n f (nI k) K = l_Mod_keep_164 n n 0 K' ∧ V9 I ns K'
  | 0, f + 1, k, K, hd, _, v => by
    have hk : k = ns := by omega
    subst hk
    have e15 : K MO 18 = nI k := by rw [v.1 MO (by decide) (by decide) (by decide)]; exact hm
    exact ⟨K, by rw [l_Mod_keep_92, if_pos (by rw [e15]; exact Int32.le_refl _)], v⟩
  | d + 1, f + 1, k, K, hd, hf, v => by
    have e15 : K MO 18 = nI ns := by rw [v.1 MO (by decide) (by decide) (by decide)]; exact hm
    have ea : (300 : Int32) + nI k = nI (300 + k) := nad (a := 300)
    obtain ⟨b1, b2, b3⟩ := v.2.1 k (by omega)
    obtain ⟨K', e, v'⟩ := kp9 (n := n) hns hm d f (k + 1) (up (up (up K A_statementKind (300 + k) (I A_statementKind k)) A_statementFrom (300 + k) (I A_statementFrom k + 1000)) A_statementTo (300 + k) (I A_statementTo k + 1000)) (by omega) (by omega) (by
      obtain ⟨a, b, c⟩ := v
      refine ⟨fun c' q1 q2 q3 => ?_, fun j hj => ⟨?_, ?_, ?_⟩, fun i hi => ?_⟩
      · rw [fu q3, fu q2, fu q1]; exact a c' q1 q2 q3
      · rw [up_o (by decide), up_o (by decide), up_ne (Or.inr (by omega))]; exact (b j hj).1
      · rw [up_o (by decide), up_ne (Or.inr (by omega)), up_o (by decide)]; exact (b j hj).2.1
      · rw [up_ne (Or.inr (by omega)), up_o (by decide), up_o (by decide)]; exact (b j hj).2.2
      · by_cases q : i = k
        · subst q
          refine ⟨?_, ?_, up_self⟩
          · rw [up_o (by decide), up_o (by decide), up_self]
          · rw [up_o (by decide), up_self]
        · refine ⟨?_, ?_, ?_⟩
          · rw [up_o (by decide), up_o (by decide), up_ne (Or.inr (by omega))]; exact (c i (by omega)).1
          · rw [up_o (by decide), up_ne (Or.inr (by omega)), up_o (by decide)]; exact (c i (by omega)).2.1
          · rw [up_ne (Or.inr (by omega)), up_o (by decide), up_o (by decide)]; exact (c i (by omega)).2.2)
    refine ⟨K', ?_, v'⟩
    rw [← e, l_Mod_keep_92, e15, if_neg (nk (by omega) (by omega)), ea, chk_i (nki (by omega) (by decide)), chk_i (nki (by omega) (by decide))]
    simp only [lt]
    rw [nkc (by omega), nkc (by omega), b1, nk1]
    rw [up_o (show A_statementFrom ≠ A_statementKind by decide), b2, up_o (show A_statementTo ≠ A_statementFrom by decide), up_o (show A_statementTo ≠ A_statementKind by decide), b3]
def V6 (I : IM) (k : Nat) (K : IM) : Prop := (∀ c, c ≠ A_ruleFrom → c ≠ A_ruleTo → c ≠ A_named → K c = I c) ∧ (∀ j, j < 301 → K A_ruleFrom j = I A_ruleFrom j ∧ K A_ruleTo j = I A_ruleTo j ∧ K A_named j = I A_named j) ∧ ∀ i, i < k → K A_ruleFrom (301 + i) = I A_ruleFrom i + 300 ∧ K A_ruleTo (301 + i) = I A_ruleTo i + 300 ∧ K A_named (301 + i) = I A_named i
theorem kp6 {n nr : Nat} {I : IM} (hnr : nr ≤ 300) (hm : I MO 23 = nI nr) : ∀ (d f k : Nat) (K : IM), k + d = nr → d < f → V6 I k K → ∃ K', l_Mod_keep_164 n f (nI k) K = l_Mod_keep_236 n n 0 K' ∧ V6 I nr K'
  | 0, f + 1, k, K, hd, _, v => by
    have hk : k = nr := by omega
    subst hk
    have e15 : K MO 23 = nI k := by rw [v.1 MO (by decide) (by decide) (by decide)]; exact hm
    exact ⟨K, by rw [l_Mod_keep_164, if_pos (by rw [e15]; exact Int32.le_refl _)], v⟩
  | d + 1, f + 1, k, K, hd, hf, v => by
    have e15 : K MO 23 = nI nr := by rw [v.1 MO (by decide) (by decide) (by decide)]; exact hm
    have ea : (301 : Int32) + nI k = nI (301 + k) := nad (a := 301)
    obtain ⟨b1, b2, b3⟩ := v.2.1 k (by omega)
    obtain ⟨K', e, v'⟩ := kp6 (n := n) hnr hm d f (k + 1) (up (up (up K A_ruleFrom (301 + k) (I A_ruleFrom k + 300)) A_ruleTo (301 + k) (I A_ruleTo k + 300)) A_named (301 + k) (I A_named k)) (by omega) (by omega) (by
      obtain ⟨a, b, c⟩ := v
      refine ⟨fun c' q1 q2 q3 => ?_, fun j hj => ⟨?_, ?_, ?_⟩, fun i hi => ?_⟩
      · rw [fu q3, fu q2, fu q1]; exact a c' q1 q2 q3
      · rw [up_o (by decide), up_o (by decide), up_ne (Or.inr (by omega))]; exact (b j hj).1
      · rw [up_o (by decide), up_ne (Or.inr (by omega)), up_o (by decide)]; exact (b j hj).2.1
      · rw [up_ne (Or.inr (by omega)), up_o (by decide), up_o (by decide)]; exact (b j hj).2.2
      · by_cases q : i = k
        · subst q
          refine ⟨?_, ?_, up_self⟩
          · rw [up_o (by decide), up_o (by decide), up_self]
          · rw [up_o (by decide), up_self]
        · refine ⟨?_, ?_, ?_⟩
          · rw [up_o (by decide), up_o (by decide), up_ne (Or.inr (by omega))]; exact (c i (by omega)).1
          · rw [up_o (by decide), up_ne (Or.inr (by omega)), up_o (by decide)]; exact (c i (by omega)).2.1
          · rw [up_ne (Or.inr (by omega)), up_o (by decide), up_o (by decide)]; exact (c i (by omega)).2.2)
    refine ⟨K', ?_, v'⟩
    rw [← e, l_Mod_keep_164, e15, if_neg (nk (by omega) (by omega)), ea, chk_i (nki (by omega) (by decide)), chk_i (nki (by omega) (by decide))]
    simp only [lt]
    rw [nkc (by omega), nkc (by omega), b1, nk1]
    rw [up_o (show A_ruleTo ≠ A_ruleFrom by decide), b2, up_o (show A_named ≠ A_ruleTo by decide), up_o (show A_named ≠ A_ruleFrom by decide), b3]
def V2 (I : IM) (k : Nat) (K : IM) : Prop := (∀ c, c ≠ A_ruleOf → K c = I c) ∧ (∀ j, j < 22 → K A_ruleOf j = I A_ruleOf j) ∧ ∀ i, i < k → K A_ruleOf (22 + i) = if 0 ≤ I A_ruleOf i then I A_ruleOf i + 301 else -1
theorem kp2 {n : Nat} {I : IM} : ∀ (d f k : Nat) (K : IM), k + d = 22 → d < f → V2 I k K → ∃ K', l_Mod_keep_236 n f (nI k) K = some K' ∧ V2 I 22 K'
  | 0, f + 1, k, K, hd, _, v => by
    have hk : k = 22 := by omega
    subst hk
    exact ⟨K, by rw [l_Mod_keep_236, if_pos (by decide)], v⟩
  | d + 1, f + 1, k, K, hd, hf, v => by
    have ea : (22 : Int32) + nI k = nI (22 + k) := nad (a := 22)
    have b1 := v.2.1 k (by omega)
    obtain ⟨K', e, v'⟩ := kp2 (n := n) (I := I) d f (k + 1) (up K A_ruleOf (22 + k) (if 0 ≤ I A_ruleOf k then I A_ruleOf k + 301 else -1)) (by omega) (by omega) (by
      obtain ⟨a, b, c⟩ := v
      refine ⟨fun c' q1 => ?_, fun j hj => ?_, fun i hi => ?_⟩
      · rw [fu q1]; exact a c' q1
      · rw [up_ne (Or.inr (by omega))]; exact b j hj
      · by_cases q : i = k
        · subst q
          exact up_self
        · rw [up_ne (Or.inr (by omega))]
          exact c i (by omega))
    refine ⟨K', ?_, v'⟩
    rw [← e, l_Mod_keep_236, if_neg (show ¬ (22 : Int32) ≤ nI k from nk (N := 22) (by omega) (by decide)), chk_i (nki (by omega) (by decide)), ea, nkc (by omega), b1]
    by_cases q : 0 ≤ I A_ruleOf k
    · rw [if_pos q, if_pos q, b_Mod_keep_273, chk_i (nki (by omega) (by decide)), lt, nkc (by omega), nk1]
    · rw [if_neg q, if_neg q, b_Mod_keep_273, chk_i (nki (by omega) (by decide)), lt, nkc (by omega), nk1]
