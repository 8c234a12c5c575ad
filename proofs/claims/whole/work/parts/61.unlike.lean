/-! unlike: the first place that differs -/
def FDp (D : Nat → Prop) (m : Nat) (r : Int32) : Prop := (r = -1 ∧ ∀ k, k < m → ¬ D k) ∨ ∃ q, q < m ∧ r = nI q ∧ D q ∧ ∀ k, k < q → ¬ D k
theorem FDp_u {D D' : Nat → Prop} {m : Nat} {r r' : Int32} (h : FDp D m r) (h' : FDp D' m r') (e : ∀ k, k < m → (D k ↔ D' k)) : r = r' := by
  rcases h with ⟨h1, h2⟩ | ⟨q, h1, h2, h3, h4⟩ <;> rcases h' with ⟨g1, g2⟩ | ⟨p, g1, g2, g3, g4⟩
  · rw [h1, g1]
  · exact absurd ((e p g1).mpr g3) (h2 p g1)
  · exact absurd ((e q h1).mp h3) (g2 q h1)
  · have : q = p := by
      rcases Nat.lt_trichotomy q p with z | z | z
      · exact absurd ((e q h1).mp h3) (g4 q z)
      · exact z
      · exact absurd ((e p g1).mpr g3) (h4 p z)
    rw [h2, g2, this]
theorem nI_n {q : Nat} (h : q < 5000) : ¬ nI q < 0 := by
  rw [ti, nI_toInt (by omega)]
  simp only [Int32.reduceToInt]
  omega
theorem nI_ll {q p : Nat} (h : q < 5000) (h' : p < 5000) : nI q ≤ nI p ↔ q ≤ p := by
  rw [tl, nI_toInt (by omega), nI_toInt (by omega)]
  omega
theorem nI_m {q : Nat} (h : q < 5000) : ¬ nI q = -1 := fun z => nI_n h (by rw [z]; decide)
theorem FDp_add {D : Nat → Prop} {m j : Nat} {r : Int32} (hm : m ≤ 4000) (h : FDp D m r) (hj : j < m) : FDp (fun k => D k ∨ k = j) m (if r < 0 then nI j else if r ≤ nI j then r else nI j) := by
  rcases h with ⟨h1, h2⟩ | ⟨q, h1, h2, h3, h4⟩
  · rw [h1, if_pos (by decide)]
    exact Or.inr ⟨j, hj, rfl, Or.inr rfl, fun k hk z => z.elim (h2 k (by omega)) (fun e => by omega)⟩
  · rw [h2, if_neg (nI_n (by omega))]
    by_cases z : q ≤ j
    · rw [if_pos ((nI_ll (by omega) (by omega)).mpr z)]
      exact Or.inr ⟨q, h1, rfl, Or.inl h3, fun k hk y => y.elim (h4 k hk) (fun e => by omega)⟩
    · rw [if_neg (fun y => z ((nI_ll (by omega) (by omega)).mp y))]
      exact Or.inr ⟨j, hj, rfl, Or.inr rfl, fun k hk y => y.elim (h4 k (by omega)) (fun e => by omega)⟩
theorem FDp_or {D1 D2 : Nat → Prop} {m : Nat} {r1 r2 : Int32} {I : IM} (hm : m ≤ 4000) (h : FDp D1 m r1) (h' : FDp D2 m r2) : ∃ r, f_Mch_earlier r1 r2 I = some r ∧ FDp (fun k => D1 k ∨ D2 k) m r := by
  unfold f_Mch_earlier b_Mch_earlier_10
  rcases h with ⟨h1, h2⟩ | ⟨q, h1, h2, h3, h4⟩ <;> rcases h' with ⟨g1, g2⟩ | ⟨p, g1, g2, g3, g4⟩
  · refine ⟨-1, by rw [h1, g1]; rfl, Or.inl ⟨rfl, fun k hk z => z.elim (h2 k hk) (g2 k hk)⟩⟩
  · refine ⟨nI p, ?_, Or.inr ⟨p, g1, rfl, Or.inr g3, fun k hk z => z.elim (h2 k (by omega)) (g4 k hk)⟩⟩
    rw [if_pos h1, h1, g2]
    unfold maxI
    rw [if_pos (by rw [ti, nI_toInt (by omega)]; show (-1 : Int) < _; omega)]
  · refine ⟨nI q, ?_, Or.inr ⟨q, h1, rfl, Or.inl h3, fun k hk z => z.elim (h4 k hk) (g2 k (by omega))⟩⟩
    rw [h2, if_neg (nI_m (by omega)), if_pos g1, g1]
    unfold maxI
    rw [if_neg (by rw [ti, nI_toInt (by omega)]; show ¬ _ < (-1 : Int); omega)]
  · rw [h2, g2, if_neg (nI_m (by omega)), if_neg (nI_m (by omega))]
    unfold minI
    by_cases z : p < q
    · rw [if_pos (by rw [ti, nI_toInt (by omega), nI_toInt (by omega)]; omega)]
      exact ⟨_, rfl, Or.inr ⟨p, g1, rfl, Or.inr g3, fun k hk y => y.elim (h4 k (by omega)) (g4 k hk)⟩⟩
    · rw [if_neg (by rw [ti, nI_toInt (by omega), nI_toInt (by omega)]; omega)]
      exact ⟨_, rfl, Or.inr ⟨q, h1, rfl, Or.inl h3, fun k hk y => y.elim (h4 k hk) (g4 k (by omega))⟩⟩
theorem up_loop {n x y m N : Nat} {I : IM} (hx : lenA x = N) (hy : lenA y = N) (hm : m ≤ N) (hN : N ≤ 4000) : ∀ (d f k : Nat), k + d = m → d < f → (∀ j, j < k → ¬ ¬ I x j = I y j) → ∃ r, l_Mch_unlikePlace_2 n x y I f (nI m) (nI k) = some r ∧ FDp (fun j => ¬ I x j = I y j) m r
  | 0, f + 1, k, hd, _, hk => by
    have e : k = m := by omega
    subst e
    exact ⟨-1, by rw [l_Mch_unlikePlace_2, if_pos (Int32.le_refl _)]; rfl, Or.inl ⟨rfl, fun j hj => hk j hj⟩⟩
  | d + 1, f + 1, k, hd, hf, hk => by
    have h1 : k < m := by omega
    rw [l_Mch_unlikePlace_2, if_neg (nk h1 (by omega)), hx, hy, if_neg (show ¬ Int32.ofNat N ≤ nI k from nk (N := N) (by omega) (by omega)), if_neg (show ¬ Int32.ofNat N ≤ nI k from nk (N := N) (by omega) (by omega)), chk_i (nki (by omega) (by omega)), chk_i (nki (by omega) (by omega)), nkc (by omega)]
    by_cases q : I x k = I y k
    · rw [if_pos q, nk1]
      exact up_loop hx hy hm hN d f (k + 1) (by omega) (by omega) (fun j hj => by
        by_cases z : j = k
        · rw [z]; exact fun w => w q
        · exact hk j (by omega))
    · rw [if_neg q]
      exact ⟨_, rfl, Or.inr ⟨k, h1, rfl, q, hk⟩⟩
theorem up_f {n x y m N : Nat} {I : IM} (hx : lenA x = N) (hy : lenA y = N) (hm : m ≤ N) (hN : N ≤ 400) (hn : 1000 ≤ n) : ∃ r, f_Mch_unlikePlace n x y (nI m) I = some r ∧ FDp (fun j => ¬ I x j = I y j) m r := up_loop hx hy hm (by omega) m n 0 (by omega) (by omega) (fun j hj => by omega)
theorem fl_loop {n w m off N : Nat} {I : IM} (hw : lenA w = N) (hm : m ≤ N) (hN : N ≤ 4000) (ho : off + m ≤ 996) : ∀ (d f : Nat) (acc : Int32) (Q : Nat → Prop), d ≤ m → d < f → FDp Q m acc → ∃ r, l_Mod_firstUnlike_9 n w I f (nI off) acc (nI d - 1) = some r ∧ FDp (fun k => Q k ∨ (k < d ∧ ¬ I w k = I A_other (off + k))) m r
  | 0, f + 1, acc, Q, _, _, h => by
    refine ⟨acc, by rw [l_Mod_firstUnlike_9, if_pos (by decide)], ?_⟩
    rcases h with ⟨h1, h2⟩ | ⟨q, h1, h2, h3, h4⟩
    · exact Or.inl ⟨h1, fun k hk z => z.elim (h2 k hk) (fun y => by omega)⟩
    · exact Or.inr ⟨q, h1, h2, Or.inl h3, fun k hk z => z.elim (h4 k hk) (fun y => by omega)⟩
  | d + 1, f + 1, acc, Q, hd, hf, h => by
    have e1 : nI (d + 1) - 1 = nI d := by
      rw [← nk1]
      apply Int32.toInt_inj.mp
      have := nI_toInt (n := d) (by omega)
      rw [isub (by rw [iadd (by rw [this]; simp only [Int32.reduceToInt]; omega) (by rw [this]; simp only [Int32.reduceToInt]; omega), this]; simp only [Int32.reduceToInt]; omega) (by rw [iadd (by rw [this]; simp only [Int32.reduceToInt]; omega) (by rw [this]; simp only [Int32.reduceToInt]; omega), this]; simp only [Int32.reduceToInt]; omega), iadd (by rw [this]; simp only [Int32.reduceToInt]; omega) (by rw [this]; simp only [Int32.reduceToInt]; omega)]
      simp only [Int32.reduceToInt]
      omega
    have e2 : nI d + (-1) = nI d - 1 := by
      rw [Int32.sub_eq_add_neg]
    have ea : nI off + nI d = nI (off + d) := by
      unfold nI
      exact (Int32.ofNat_add off d).symm
    rw [e1, l_Mod_firstUnlike_9, if_neg (nI_n (by omega)), hw, chk_i (nki (by omega) (by omega)), ea, chk_i (nki (by omega) (by decide)), nkc (by omega), nkc (by omega), e2]
    by_cases q : I w d = I A_other (off + d)
    · rw [if_pos q]
      obtain ⟨r, g1, g2⟩ := fl_loop hw hm hN ho d f acc Q (by omega) (by omega) h
      refine ⟨r, g1, ?_⟩
      have hh : ∀ k, k < m → ((Q k ∨ (k < d ∧ ¬ I w k = I A_other (off + k))) ↔ (Q k ∨ (k < d + 1 ∧ ¬ I w k = I A_other (off + k)))) := fun k _ => ⟨fun z => z.elim Or.inl (fun y => Or.inr ⟨by omega, y.2⟩), fun z => z.elim Or.inl (fun y => by
        by_cases hk : k = d
        · rw [hk] at y; exact absurd q y.2
        · exact Or.inr ⟨by omega, y.2⟩)⟩
      rcases g2 with ⟨a1, a2⟩ | ⟨p, a1, a2, a3, a4⟩
      · exact Or.inl ⟨a1, fun k hk z => a2 k hk ((hh k hk).mpr z)⟩
      · exact Or.inr ⟨p, a1, a2, (hh p a1).mp a3, fun k hk z => a4 k hk ((hh k (by omega)).mpr z)⟩
    · rw [if_neg q]
      obtain ⟨r, g1, g2⟩ := fl_loop hw hm hN ho d f _ _ (by omega) (by omega) (FDp_add (by omega) h (show d < m by omega))
      refine ⟨r, g1, ?_⟩
      have hh : ∀ k, k < m → (((Q k ∨ k = d) ∨ (k < d ∧ ¬ I w k = I A_other (off + k))) ↔ (Q k ∨ (k < d + 1 ∧ ¬ I w k = I A_other (off + k)))) := fun k _ => ⟨fun z => z.elim (fun y => y.elim Or.inl (fun e => Or.inr ⟨by omega, by rw [e]; exact q⟩)) (fun y => Or.inr ⟨by omega, y.2⟩), fun z => z.elim (fun y => Or.inl (Or.inl y)) (fun y => by
        by_cases hk : k = d
        · exact Or.inl (Or.inr hk)
        · exact Or.inr ⟨by omega, y.2⟩)⟩
      rcases g2 with ⟨a1, a2⟩ | ⟨p, a1, a2, a3, a4⟩
      · exact Or.inl ⟨a1, fun k hk z => a2 k hk ((hh k hk).mpr z)⟩
      · exact Or.inr ⟨p, a1, a2, (hh p a1).mp a3, fun k hk z => a4 k hk ((hh k (by omega)).mpr z)⟩
