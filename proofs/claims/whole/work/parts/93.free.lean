/-! free words -/
def All0 (ow : Nat → Int32) (M k : Nat) : Prop := ∀ j, k ≤ j → j < k + M → ow j = 0
/-- the first place, from t on, of so many free words -/
def FW (ow : Nat → Int32) (M t : Nat) (v : Int32) : Prop := (v = -1 ∧ ∀ k, t ≤ k → k + M ≤ 96 → ¬ All0 ow M k) ∨ ∃ k, t ≤ k ∧ k + M ≤ 96 ∧ v = nI k ∧ All0 ow M k ∧ ∀ i, t ≤ i → i < k → ¬ All0 ow M i
theorem FW_u {ow : Nat → Int32} {M t : Nat} {v v' : Int32} (h : FW ow M t v) (h' : FW ow M t v') : v = v' := by
  rcases h with ⟨a, b⟩ | ⟨j, a, b, c, d, e⟩ <;> rcases h' with ⟨a', b'⟩ | ⟨j', a', b', c', d', e'⟩
  · rw [a, a']
  · exact absurd d' (b j' a' b')
  · exact absurd d (b' j a b)
  · have : j = j' := by
      by_cases q : j < j'
      · exact absurd d (e' j a q)
      · by_cases q2 : j' < j
        · exact absurd d' (e j' a' q2)
        · omega
    rw [c, c', this]
theorem FW_c {a b : Nat → Int32} {M t : Nat} {v : Int32} (h : ∀ j, j < 96 → a j = b j) (f : FW a M t v) : FW b M t v := by
  have al : ∀ k, k + M ≤ 96 → (All0 a M k ↔ All0 b M k) := fun k hk => ⟨fun z j h1 h2 => by rw [← h j (by omega)]; exact z j h1 h2, fun z j h1 h2 => by rw [h j (by omega)]; exact z j h1 h2⟩
  rcases f with ⟨x, y⟩ | ⟨k, x, y, z, w, u⟩
  · exact Or.inl ⟨x, fun k h1 h2 => by rw [← al k h2]; exact y k h1 h2⟩
  · exact Or.inr ⟨k, x, y, z, (al k y).mp w, fun i h1 h2 => by rw [← al i (by omega)]; exact u i h1 h2⟩
theorem fp_l {n m M : Nat} {C : IM} (hM : 1 ≤ M) (hM2 : M ≤ 16) : ∀ (d f k r : Nat), k + d = 96 → d < f → r ≤ k → r < M → (∀ j, k - r ≤ j → j < k → C (m + 5) j = 0) → (∀ i, i < k - r → ¬ All0 (C (m + 5)) M i) → ∃ v, l_Mch_freePlace_17 n m C f (nI M) (nI r) (nI k) = some v ∧ FW (C (m + 5)) M 0 v
  | 0, f + 1, k, r, hd, _, hr, hrM, h1, h2 => by
    have hk : k = 96 := by omega
    subst hk
    refine ⟨-1, by rw [l_Mch_freePlace_17, if_pos (by decide)], Or.inl ⟨rfl, fun i _ h => h2 i (by omega)⟩⟩
  | d + 1, f + 1, k, r, hd, hf, hr, hrM, h1, h2 => by
    have st : l_Mch_freePlace_17 n m C (f + 1) (nI M) (nI r) (nI k) = if (if C (m + 5) k = 0 then nI (r + 1) else 0) = nI M then some (nI k - nI M + 1) else l_Mch_freePlace_17 n m C f (nI M) (if C (m + 5) k = 0 then nI (r + 1) else 0) (nI (k + 1)) := by
      rw [l_Mch_freePlace_17, if_neg (show ¬ (96 : Int32) ≤ nI k from nk (N := 96) (by omega) (by decide)), chk_i (nki (by omega) (by decide)), nkc (by omega), nk1, nk1]
    rw [st]
    by_cases z : C (m + 5) k = 0
    · rw [if_pos z]
      have run : ∀ j, k - r ≤ j → j < k + 1 → C (m + 5) j = 0 := fun j a b => by
        by_cases e : j = k
        · rw [e]; exact z
        · exact h1 j a (by omega)
      by_cases q : r + 1 = M
      · rw [if_pos (by rw [q])]
        refine ⟨_, rfl, Or.inr ⟨k - r, by omega, by omega, ?_, fun j a b => run j a (by omega), fun i _ hi => h2 i hi⟩⟩
        by_cases kM : M ≤ k
        · rw [nsb kM, nk1]; congr 1; omega
        · have : k + 1 = M := by omega
          rw [← this, ← nk1, show k - r = 0 by omega]
          have e0 : nI k - (nI k + 1) + 1 = 0 := by
            rw [Int32.sub_eq_add_neg, Int32.neg_add, Int32.sub_eq_add_neg, ← Int32.add_assoc, ← Int32.sub_eq_add_neg (nI k), Int32.sub_self, Int32.zero_add, Int32.add_comm, ← Int32.sub_eq_add_neg, Int32.sub_self]
          rw [e0]; rfl
      · rw [if_neg (fun y => q (nij (by omega) (by omega) y))]
        exact fp_l hM hM2 d f (k + 1) (r + 1) (by omega) (by omega) (by omega) (by omega) (fun j a b => run j (by omega) b) (fun i hi => h2 i (by omega))
    · rw [if_neg z, if_neg (show ¬ (0 : Int32) = nI M from fun y => by have := nij (a := 0) (by decide) (by omega) y; omega)]
      refine fp_l hM hM2 d f (k + 1) 0 (by omega) (by omega) (by omega) (by omega) (fun j a b => by omega) (fun i hi y => ?_)
      by_cases q : i < k - r
      · exact h2 i q y
      · exact z (y k (by omega) (by omega))
theorem fw_1 {n M k : Nat} {R : IM} {H : Int32 → Int32 → Int32 → Option Int32} {x2 : Int32} (hk : k + M ≤ 96) : ∀ (d f j : Nat), j + d = k + M → d < f → l_Mod_freeWords_17 n R H f (nI M) x2 (nI k) 0 (nI j) = H (nI M) x2 (nI k + (-1))
  | 0, f + 1, j, hd, _ => by
    have hj : j = k + M := by omega
    subst hj
    rw [l_Mod_freeWords_17, nad, if_pos (Int32.le_refl _), if_pos rfl]
  | d + 1, f + 1, j, hd, hf => by
    rw [l_Mod_freeWords_17, nad, if_neg (nk (by omega) (by omega)), if_pos rfl, b_Mod_freeWords_44, b_Mod_freeWords_45, nk1]
    exact fw_1 hk d f (j + 1) (by omega) (by omega)
theorem fw_2 {n M k : Nat} {R : IM} {H : Int32 → Int32 → Int32 → Option Int32} {x2 : Int32} (hk : k + M ≤ 96) : ∀ (d f j : Nat), j + d = k + M → d < f → ((∀ i, j ≤ i → i < k + M → R A_owners i = 0) → l_Mod_freeWords_17 n R H f (nI M) x2 (nI k) 1 (nI j) = H (nI M) (nI k) (nI k + (-1))) ∧ ((¬ ∀ i, j ≤ i → i < k + M → R A_owners i = 0) → l_Mod_freeWords_17 n R H f (nI M) x2 (nI k) 1 (nI j) = H (nI M) x2 (nI k + (-1)))
  | 0, f + 1, j, hd, _ => by
    have hj : j = k + M := by omega
    subst hj
    refine ⟨fun _ => ?_, fun z => absurd (fun i a b => by omega) z⟩
    rw [l_Mod_freeWords_17, nad, if_pos (Int32.le_refl _), if_neg (by decide)]
  | d + 1, f + 1, j, hd, hf => by
    have st : l_Mod_freeWords_17 n R H (f + 1) (nI M) x2 (nI k) 1 (nI j) = l_Mod_freeWords_17 n R H f (nI M) x2 (nI k) (if R A_owners j = 0 then 1 else 0) (nI (j + 1)) := by
      rw [l_Mod_freeWords_17, nad, if_neg (nk (by omega) (by omega)), if_neg (by decide), chk_i (nki (by omega) (by decide)), nkc (by omega), nk1]
    rw [st]
    by_cases z : R A_owners j = 0
    · rw [if_pos z]
      obtain ⟨i1, i0⟩ := fw_2 (n := n) (R := R) (H := H) (x2 := x2) hk d f (j + 1) (by omega) (by omega)
      refine ⟨fun h => i1 (fun i a b => h i (by omega) b), fun h => i0 (fun y => h (fun i a b => ?_))⟩
      by_cases e : i = j
      · rw [e]; exact z
      · exact y i (by omega) b
    · rw [if_neg z]
      exact ⟨fun h => absurd (h j (by omega) (by omega)) z, fun _ => fw_1 hk d f (j + 1) (by omega) (by omega)⟩
theorem mi1 {k : Nat} (hk : k < 5000) : nI (k + 1) + (-1) = nI k := by
  have : nI (k + 1) - 1 = nI k := nsb (b := 1) (by omega)
  rw [← this]
  exact (Int32.sub_eq_add_neg _ _).symm
theorem fw_l {n M : Nat} {R : IM} (hn : 1000 ≤ n) (hM : 1 ≤ M) (hM2 : M ≤ 16) : ∀ (t f : Nat) (x : Int32), t + M ≤ 97 → t < f → FW (R A_owners) M t x → ∃ v, l_Mod_freeWords_7 n R f (nI M) x (nI t + (-1)) = some v ∧ FW (R A_owners) M 0 v
  | 0, f + 1, x, _, _, h => ⟨x, by rw [l_Mod_freeWords_7, if_pos (by decide)], h⟩
  | t + 1, f + 1, x, ht, hf, h => by
    have st : l_Mod_freeWords_7 n R (f + 1) (nI M) x (nI (t + 1) + (-1)) = l_Mod_freeWords_17 n R (l_Mod_freeWords_7 n R f) n (nI M) x (nI t) 1 (nI t) := by
      rw [l_Mod_freeWords_7, mi1 (by omega), if_neg (show ¬ nI t < 0 from fun z => by have := (nlt (b := 0) (by omega) (by decide)).mp z; omega)]
    obtain ⟨i1, i0⟩ := fw_2 (n := n) (R := R) (H := l_Mod_freeWords_7 n R f) (x2 := x) (show t + M ≤ 96 by omega) M n t (by omega) (by omega)
    rw [st]
    by_cases z : All0 (R A_owners) M t
    · rw [i1 z]
      exact fw_l hn hM hM2 t f (nI t) (by omega) (by omega) (Or.inr ⟨t, Nat.le_refl _, by omega, rfl, z, fun i a b => by omega⟩)
    · rw [i0 z]
      refine fw_l hn hM hM2 t f x (by omega) (by omega) ?_
      rcases h with ⟨a, b⟩ | ⟨k, a, b, c, d', e'⟩
      · refine Or.inl ⟨a, fun k h1 h2 => ?_⟩
        by_cases q : k = t
        · rw [q]; exact z
        · exact b k (by omega) h2
      · refine Or.inr ⟨k, by omega, b, c, d', fun i h1 h2 => ?_⟩
        by_cases q : i = t
        · rw [q]; exact z
        · exact e' i (by omega) h2
/-- the place for so many words, on both sides -/
theorem fp_eq {n m : Nat} {C R : IM} {x : Int32} (hn : 1000 ≤ n) (ho : ∀ k, k < 96 → C (m + 5) k = R A_owners k) : (¬ (1 ≤ x.toInt ∧ x.toInt ≤ 16) ∧ f_Mch_freePlace n m x C = some (-1) ∧ f_Mod_in x 1 16 R = some 0) ∨ ∃ M, 1 ≤ M ∧ M ≤ 16 ∧ x = nI M ∧ f_Mod_in x 1 16 R = some 1 ∧ ((f_Mch_freePlace n m x C = some (-1) ∧ f_Mod_freeWords n x R = some (-1)) ∨ ∃ k, k + M ≤ 96 ∧ f_Mch_freePlace n m x C = some (nI k) ∧ f_Mod_freeWords n x R = some (nI k)) := by
  by_cases c1 : x < 1
  · refine Or.inl ⟨?_, ?_, ?_⟩
    · rw [ti] at c1; simp only [Int32.reduceToInt] at c1; omega
    · rw [f_Mch_freePlace, if_pos c1]; rfl
    · simp [f_Mod_in, c1, chk]
  by_cases c2 : x ≤ 16
  · have c2' : ¬ (16 : Int32) < x := fun z => ile.mpr z c2
    have n0 : ¬ x < 0 := by
      rw [ti] at c1 ⊢
      simp only [Int32.reduceToInt] at c1 ⊢
      omega
    have e := nof n0
    have e2 := nat_of n0
    obtain ⟨M, hM⟩ : ∃ M, M = x.toNatClampNeg := ⟨_, rfl⟩
    rw [← hM] at e e2
    have b1 : 1 ≤ M := by rw [ti] at c1; simp only [Int32.reduceToInt] at c1; omega
    have b2 : M ≤ 16 := by rw [tl] at c2; simp only [Int32.reduceToInt] at c2; omega
    refine Or.inr ⟨M, b1, b2, e, by simp [f_Mod_in, c1, c2', chk], ?_⟩
    obtain ⟨v, f1, g1⟩ := fp_l (n := n) (m := m) (C := C) b1 b2 96 n 0 0 (by omega) (by omega) (by omega) (by omega) (fun j a b => by omega) (fun i hi => by omega)
    obtain ⟨v', f2, g2⟩ := fw_l (n := n) (R := R) hn b1 b2 (97 - M) n (-1) (by omega) (by omega) (Or.inl ⟨rfl, fun k a b => by omega⟩)
    have f1' : f_Mch_freePlace n m x C = some v := by rw [f_Mch_freePlace, if_neg c1, if_pos c2, e]; exact f1
    have f2' : f_Mod_freeWords n x R = some v' := by
      have : (96 : Int32) - nI M = nI (97 - M) + (-1) := by
        rw [show 97 - M = (96 - M) + 1 by omega, mi1 (by omega)]
        exact nsb (a := 96) (by omega)
      rw [f_Mod_freeWords, e, this]
      exact f2
    have := FW_u (FW_c ho g1) g2
    subst this
    rcases g2 with ⟨a, -⟩ | ⟨k, -, b, c, -⟩
    · rw [a] at f1' f2'
      exact Or.inl ⟨f1', f2'⟩
    · rw [c] at f1' f2'
      exact Or.inr ⟨k, b, f1', f2'⟩
  · have c2' : (16 : Int32) < x := ile.mp c2
    refine Or.inl ⟨?_, ?_, ?_⟩
    · rw [ti] at c2'; simp only [Int32.reduceToInt] at c2'; omega
    · rw [f_Mch_freePlace, if_neg c1, if_neg c2]; rfl
    · simp [f_Mod_in, c1, c2', chk]
