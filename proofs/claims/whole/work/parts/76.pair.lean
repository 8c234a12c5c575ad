/-! pairs, parts of pairs, bases -/
theorem subm {x : Int32} : (x - 1000000).toInt = if -2146483648 ≤ x.toInt then x.toInt - 1000000 else x.toInt - 1000000 + 4294967296 := by
  have h1 := Int32.toInt_lt x
  have h2 := Int32.le_toInt x
  simp only [Int32.toInt_sub, Int32.reduceToInt, Int.bmod_def]
  split <;> split <;> omega
theorem pt_eq {m : Nat} {C R : IM} {x : Int32} (hm : isMch m) (h : PP m C R) : (∃ v, f_Mch_partOf m x (m + 11) x C = some v ∧ f_Mod_part x 1 R = some v) ∧ ∃ v, f_Mch_partOf m x (m + 12) 0 C = some v ∧ f_Mod_part x 0 R = some v := by
  obtain ⟨np, hnp, e1, e2, e3⟩ := h
  have e1' : C (m + 13) (7 : Int32).toNatClampNeg = nI np := e1
  have hs := subm (x := x)
  have xb := Int32.toInt_lt x
  have xb2 := Int32.le_toInt x
  by_cases q : 1000000 ≤ x.toInt ∧ x.toInt < 1000000 + np
  · have d : (x - 1000000).toInt = x.toInt - 1000000 := by rw [hs, if_pos (by omega)]
    have n0 : ¬ x - 1000000 < 0 := by rw [ti, d]; simp only [Int32.reduceToInt]; omega
    have nn := nat_of n0
    obtain ⟨k, hk⟩ : ∃ k, k = (x - 1000000).toNatClampNeg := ⟨_, rfl⟩
    rw [← hk] at nn
    have hk2 : k < np := by omega
    have n1 : ¬ nI np ≤ x - 1000000 := by rw [tl, d, nI_toInt (by omega)]; omega
    have n2 : ¬ Int32.ofNat 60 ≤ x - 1000000 := by rw [tl, d, show (Int32.ofNat 60).toInt = 60 from rfl]; omega
    have ib : inb (x - 1000000) 60 := inb_of n0 (by rw [d]; omega)
    have n3 : ¬ x < 1000000 := by rw [ti]; simp only [Int32.reduceToInt]; omega
    obtain ⟨g1, g2⟩ := e3 k hk2
    refine ⟨⟨C (m + 11) k, ?_, ?_⟩, ⟨C (m + 12) k, ?_, ?_⟩⟩
    · rw [f_Mch_partOf, if_neg n0, e1', if_neg n1, ln_11 hm, if_neg n2, chk_i ib, b_Mch_partOf_38, ← hk]
    · rw [f_Mod_part, if_neg n3, e2, if_neg n1, if_neg (by decide), if_neg (by decide), chk_i ib, b_Mod_part_68, ← hk, g1]
    · rw [f_Mch_partOf, if_neg n0, e1', if_neg n1, ln_12 hm, if_neg n2, chk_i ib, b_Mch_partOf_38, ← hk]
    · rw [f_Mod_part, if_neg n3, e2, if_neg n1, if_neg (by decide), if_pos rfl, chk_i ib, b_Mod_part_68, ← hk, g2]
  · have cl : ∀ a (o : Int32), f_Mch_partOf m x a o C = some o := by
      intro a o
      rw [f_Mch_partOf]
      by_cases n0 : x - 1000000 < 0
      · rw [if_pos n0]; rfl
      · rw [if_neg n0, e1', if_pos (show nI np ≤ x - 1000000 by
          rw [ti, hs] at n0
          rw [tl, hs, nI_toInt (by omega)]
          simp only [Int32.reduceToInt] at n0
          split at n0 <;> split <;> omega)]
        rfl
    refine ⟨⟨x, cl _ _, ?_⟩, ⟨0, cl _ _, ?_⟩⟩
    · rw [f_Mod_part]
      by_cases n3 : x < 1000000
      · rw [if_pos n3]; rfl
      · rw [if_neg n3, e2, if_pos (show nI np ≤ x - 1000000 by
          rw [ti] at n3
          rw [tl, hs, nI_toInt (by omega)]
          simp only [Int32.reduceToInt] at n3
          split <;> omega), if_pos rfl, if_neg (by decide)]
    · rw [f_Mod_part]
      by_cases n3 : x < 1000000
      · rw [if_pos n3]; rfl
      · rw [if_neg n3, e2, if_pos (show nI np ≤ x - 1000000 by
          rw [ti] at n3
          rw [tl, hs, nI_toInt (by omega)]
          simp only [Int32.reduceToInt] at n3
          split <;> omega), if_pos rfl, if_pos rfl]
theorem pw_loop {n m np : Nat} {C R : IM} {x y : Int32} (hnp : np ≤ 60) (e2 : R MO 55 = nI np) (e3 : ∀ k, k < np → C (m + 11) k = R A_firsts k ∧ C (m + 12) k = R A_seconds k) : ∀ (d f f' k : Nat), k + d = np → d < f → d < f' → (∃ j, j < 60 ∧ l_Mch_pairWith_11 n m f x y (nI np) (nI k) C = some (1000000 + nI j, C) ∧ l_Mod_pairNumber_2 n f' x y (nI k) R = some (1000000 + nI j, R)) ∨ (l_Mch_pairWith_11 n m f x y (nI np) (nI k) C = b_Mch_pairWith_58 n m x y (nI np) C ∧ l_Mod_pairNumber_2 n f' x y (nI k) R = l_Mod_pairNumber_2 n 1 x y (nI np) R)
  | 0, f + 1, f' + 1, k, hd, _, _ => by
    have hk : k = np := by omega
    subst hk
    refine Or.inr ⟨?_, ?_⟩
    · rw [l_Mch_pairWith_11, if_pos (Int32.le_refl _)]
    · rw [l_Mod_pairNumber_2, l_Mod_pairNumber_2, e2, if_pos (Int32.le_refl _), if_pos (Int32.le_refl _)]
  | d + 1, f + 1, f' + 1, k, hd, hf, hf' => by
    have hk : k < np := by omega
    obtain ⟨g1, g2⟩ := e3 k hk
    have a1 : l_Mch_pairWith_11 n m (f + 1) x y (nI np) (nI k) C = if C (m + 11) k = x then (if C (m + 12) k = y then some (1000000 + nI k, C) else l_Mch_pairWith_11 n m f x y (nI np) (nI (k + 1)) C) else l_Mch_pairWith_11 n m f x y (nI np) (nI (k + 1)) C := by
      rw [l_Mch_pairWith_11, if_neg (nk hk (by omega)), if_neg (show ¬ (60 : Int32) ≤ nI k from nk (N := 60) (by omega) (by decide)), chk_i (nki (by omega) (by decide)), nkc (by omega), b_Mch_pairWith_52, nk1]
    have a2 : l_Mod_pairNumber_2 n (f' + 1) x y (nI k) R = if C (m + 11) k = x then (if C (m + 12) k = y then some (1000000 + nI k, R) else l_Mod_pairNumber_2 n f' x y (nI (k + 1)) R) else l_Mod_pairNumber_2 n f' x y (nI (k + 1)) R := by
      rw [l_Mod_pairNumber_2, e2, if_neg (nk hk (by omega)), chk_i (nki (by omega) (by decide)), nkc (by omega), b_Mod_pairNumber_36, nk1, g1, g2]
    have ih := pw_loop (n := n) (x := x) (y := y) hnp e2 e3 d f f' (k + 1) (by omega) (by omega) (by omega)
    by_cases c1 : C (m + 11) k = x
    · by_cases c2 : C (m + 12) k = y
      · refine Or.inl ⟨k, by omega, ?_, ?_⟩
        · rw [a1, if_pos c1, if_pos c2]
        · rw [a2, if_pos c1, if_pos c2]
      · rw [a1, a2, if_pos c1, if_neg c2, if_pos c1, if_neg c2]
        exact ih
    · rw [a1, a2, if_neg c1, if_neg c1]
      exact ih
/-- what a pair's number comes to -/
theorem pw {n m : Nat} {C R : IM} {x y : Int32} (hn : 1000 ≤ n) (h : PP m C R) : (∃ v C' R', ¬ v = -1 ∧ f_Mch_pairWith n m x y C = some (v, C') ∧ f_Mod_pairNumber n x y R = some (v, R') ∧ (∀ b, b ≠ m + 11 → b ≠ m + 12 → b ≠ m + 13 → C' b = C b) ∧ (∀ j, j ≠ 7 → C' (m + 13) j = C (m + 13) j) ∧ (∀ b, b ≠ MO → b ≠ A_firsts → b ≠ A_seconds → R' b = R b) ∧ (∀ j, j ≠ 55 → R' MO j = R MO j) ∧ PP m C' R') ∨ (f_Mch_pairWith n m x y C = some (-1, C) ∧ f_Mod_pairNumber n x y R = some (0, up R MO 82 4)) := by
  obtain ⟨np, hnp, e1, e2, e3⟩ := id h
  have e1' : C (m + 13) (7 : Int32).toNatClampNeg = nI np := e1
  have nm1 : ∀ j, j < 61 → ¬ (1000000 + nI j : Int32) = -1 := by
    intro j hj q
    have : (1000000 : Int32) + nI j = nI (1000000 + j) := nad (a := 1000000)
    rw [this] at q
    have := congrArg Int32.toInt q
    rw [nI_toInt (by omega)] at this
    simp only [Int32.reduceToInt] at this
    omega
  have a1 : f_Mch_pairWith n m x y C = l_Mch_pairWith_11 n m n x y (nI np) (nI 0) C := by rw [f_Mch_pairWith, e1']; rfl
  have a2 : f_Mod_pairNumber n x y R = l_Mod_pairNumber_2 n n x y (nI 0) R := rfl
  rcases pw_loop (n := n) (x := x) (y := y) hnp e2 e3 np n n 0 (by omega) (by omega) (by omega) with ⟨j, hj, l1, l2⟩ | ⟨l1, l2⟩
  · exact Or.inl ⟨_, C, R, nm1 j (by omega), a1.trans l1, a2.trans l2, fun _ _ _ _ => rfl, fun _ _ => rfl, fun _ _ _ _ => rfl, fun _ _ => rfl, h⟩
  · by_cases q : np = 60
    · subst q
      refine Or.inr ⟨?_, ?_⟩
      · rw [a1, l1, b_Mch_pairWith_58, if_neg (by decide), if_neg (by decide), b_Mch_pairWith_68]
      · rw [a2, l2, l_Mod_pairNumber_2, e2, if_pos (Int32.le_refl _), if_pos (show nI 60 = 60 from rfl), lt]
    · have hq : np < 60 := by omega
      have n60 : ¬ nI np = 60 := fun z => q (nij (b := 60) (by omega) (by decide) z)
      refine Or.inl ⟨1000000 + nI np, up (up (up C (m + 11) np x) (m + 12) np y) (m + 13) 7 (nI (np + 1)), up (up (up R A_firsts np x) A_seconds np y) MO 55 (nI (np + 1)), nm1 np (by omega), ?_, ?_, ?_, ?_, ?_, ?_, ?_⟩
      · rw [a1, l1, b_Mch_pairWith_58, if_neg (show ¬ nI np < 0 from fun z => by have := (nlt (b := 0) (by omega) (by decide)).mp z; omega), if_pos (show nI np < 60 from (nlt (b := 60) (by omega) (by decide)).mpr hq), chk_i (nki (by omega) (by decide))]
        simp only [lt]
        rw [nkc (by omega), nk1]
        rfl
      · rw [a2, l2, l_Mod_pairNumber_2, e2, if_pos (Int32.le_refl _), if_neg n60, chk_i (nki hq (by decide)), lt, nkc (by omega), up_o (show MO ≠ A_firsts by decide), e2, chk_i (nki hq (by decide)), lt, nkc (by omega), up_o (show MO ≠ A_seconds by decide), up_o (show MO ≠ A_firsts by decide), e2, nk1, lt, up_self]
        have : (1000000 : Int32) + nI (np + 1) - 1 = 1000000 + nI np := by
          rw [show (1000000 : Int32) = nI 1000000 from rfl, nad, nad]
          exact nsb (b := 1) (by omega)
        rw [this]
      · intro b q1 q2 q3
        rw [fu q3, fu q2, fu q1]
      · intro j hj
        rw [up_ne (Or.inr hj), up_o (by omega), up_o (by omega)]
      · intro b q1 q2 q3
        rw [fu q1, fu q3, fu q2]
      · intro j hj
        rw [up_ne (Or.inr hj), up_o (by decide), up_o (by decide)]
      · refine ⟨np + 1, by omega, up_self, up_self, fun k hk => ?_⟩
        rw [up_o (show m + 11 ≠ m + 13 by omega), up_o (show m + 11 ≠ m + 12 by omega), up_o (show m + 12 ≠ m + 13 by omega), up_o (show A_firsts ≠ MO by decide), up_o (show A_firsts ≠ A_seconds by decide), up_o (show A_seconds ≠ MO by decide)]
        by_cases z : k = np
        · subst z
          rw [up_self, up_self, up_self, up_self]
          exact ⟨rfl, rfl⟩
        · rw [up_ne (Or.inr z), up_ne (Or.inr z), up_ne (Or.inr z), up_ne (Or.inr z), up_ne (Or.inr z), up_ne (Or.inr z)]
          exact e3 k (by omega)
/-- the first place of an owner, from a place on -/
def Fst (ow : Nat → Int32) (o : Int32) (k : Nat) (v : Int32) : Prop := (v = -1 ∧ ∀ j, k ≤ j → j < 96 → ¬ ow j = o) ∨ ∃ j, k ≤ j ∧ j < 96 ∧ v = nI j ∧ ow j = o ∧ ∀ i, k ≤ i → i < j → ¬ ow i = o
theorem Fst_u {ow : Nat → Int32} {o v v' : Int32} {k : Nat} (h : Fst ow o k v) (h' : Fst ow o k v') : v = v' := by
  rcases h with ⟨a, b⟩ | ⟨j, a, b, c, d, e⟩ <;> rcases h' with ⟨a', b'⟩ | ⟨j', a', b', c', d', e'⟩
  · rw [a, a']
  · exact absurd d' (b j' a' b')
  · exact absurd d (b' j a b)
  · have : j = j' := by
      by_cases q : j < j'
      · exact absurd d (e' j a q)
      · by_cases q2 : j' < j
        · exact absurd d' (e j' a' q2)
        · omega
    rw [c, c', this]
theorem bs_c {n m : Nat} {C : IM} {o : Int32} : ∀ (d f k : Nat), k + d = 96 → d < f → ∃ v, l_Mch_baseOf_2 n m C f o (nI k) = some v ∧ Fst (C (m + 5)) o k v
  | 0, f + 1, k, hd, _ => by
    have hk : k = 96 := by omega
    subst hk
    exact ⟨-1, by rw [l_Mch_baseOf_2, if_pos (by decide)], Or.inl ⟨rfl, fun j h1 h2 => by omega⟩⟩
  | d + 1, f + 1, k, hd, hf => by
    have st : l_Mch_baseOf_2 n m C (f + 1) o (nI k) = if C (m + 5) k = o then some (nI k) else l_Mch_baseOf_2 n m C f o (nI (k + 1)) := by
      rw [l_Mch_baseOf_2, if_neg (show ¬ (96 : Int32) ≤ nI k from nk (N := 96) (by omega) (by decide)), chk_i (nki (by omega) (by decide)), nkc (by omega), nk1]
    rw [st]
    by_cases q : C (m + 5) k = o
    · exact ⟨nI k, if_pos q, Or.inr ⟨k, Nat.le_refl _, by omega, rfl, q, fun i h1 h2 => by omega⟩⟩
    · rw [if_neg q]
      obtain ⟨v, e, h⟩ := bs_c (n := n) (m := m) (C := C) (o := o) d f (k + 1) (by omega) (by omega)
      refine ⟨v, e, ?_⟩
      rcases h with ⟨a, b⟩ | ⟨j, a, b, c, d', e'⟩
      · refine Or.inl ⟨a, fun j h1 h2 => ?_⟩
        by_cases z : j = k
        · rw [z]; exact q
        · exact b j (by omega) h2
      · refine Or.inr ⟨j, by omega, b, c, d', fun i h1 h2 => ?_⟩
        by_cases z : i = k
        · rw [z]; exact q
        · exact e' i (by omega) h2
theorem bs_r {n : Nat} {R : IM} {o : Int32} : ∀ (k f : Nat) (x : Int32), k ≤ 96 → k < f → Fst (R A_owners) o k x → ∃ v, l_Mod_baseOf_5 n R f o x (nI k + (-1)) = some v ∧ Fst (R A_owners) o 0 v
  | 0, f + 1, x, _, _, h => ⟨x, by rw [l_Mod_baseOf_5, if_pos (by decide)], h⟩
  | k + 1, f + 1, x, hk, hf, h => by
    have ek : nI (k + 1) + (-1) = nI k := by
      have : nI (k + 1) - 1 = nI k := nsb (b := 1) (by omega)
      rw [← this]
      exact (Int32.sub_eq_add_neg _ _).symm
    obtain ⟨v, e, hv⟩ := bs_r (n := n) (R := R) (o := o) k f (if R A_owners k = o then nI k else x) (by omega) (by omega) (by
      by_cases q : R A_owners k = o
      · rw [if_pos q]
        exact Or.inr ⟨k, Nat.le_refl _, by omega, rfl, q, fun i h1 h2 => by omega⟩
      · rw [if_neg q]
        rcases h with ⟨a, b⟩ | ⟨j, a, b, c, d', e'⟩
        · refine Or.inl ⟨a, fun j h1 h2 => ?_⟩
          by_cases z : j = k
          · rw [z]; exact q
          · exact b j (by omega) h2
        · refine Or.inr ⟨j, by omega, b, c, d', fun i h1 h2 => ?_⟩
          by_cases z : i = k
          · rw [z]; exact q
          · exact e' i (by omega) h2)
    refine ⟨v, ?_, hv⟩
    rw [l_Mod_baseOf_5, ek, if_neg (show ¬ nI k < 0 from fun z => by have := (nlt (b := 0) (by omega) (by decide)).mp z; omega), chk_i (nki (by omega) (by decide)), nkc (by omega)]
    exact e
theorem Fst_c {a b : Nat → Int32} {o v : Int32} {k : Nat} (h : ∀ j, j < 96 → a j = b j) (f : Fst a o k v) : Fst b o k v := by
  rcases f with ⟨x, y⟩ | ⟨j, x, y, z, w, u⟩
  · exact Or.inl ⟨x, fun j h1 h2 => by rw [← h j h2]; exact y j h1 h2⟩
  · exact Or.inr ⟨j, x, y, z, by rw [← h j y]; exact w, fun i h1 h2 => by rw [← h i (by omega)]; exact u i h1 h2⟩
theorem bs_eq {n m : Nat} {C R : IM} {o : Int32} (hn : 1000 ≤ n) (h : ∀ k, k < 96 → C (m + 5) k = R A_owners k) : ∃ v, f_Mch_baseOf n m o C = some v ∧ f_Mod_baseOf n o R = some v := by
  obtain ⟨v, e1, h1⟩ := bs_c (n := n) (m := m) (C := C) (o := o) 96 n 0 (by omega) (by omega)
  obtain ⟨v', e2, h2⟩ := bs_r (n := n) (R := R) (o := o) 96 n (-1) (by omega) (by omega) (Or.inl ⟨rfl, fun j a b => by omega⟩)
  have := Fst_u (Fst_c h h1) h2
  subst this
  exact ⟨v, e1, e2⟩
