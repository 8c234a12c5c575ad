/-! tokens: numbers, signs, all of them -/
/-- a token where d signs are left and no blank stands: its number in the class, its value, what is left -/
def pTk (T : Nat → Int32) (N d : Nat) : Nat × Int32 × Nat := if d = 0 then (100, 0, 0) else if 97 ≤ T (N - d) ∧ T (N - d) ≤ 122 then (wix (pLw T N d), 0, pLr T N d) else if 48 ≤ T (N - d) ∧ T (N - d) ≤ 57 then (if d - (pNv T N d 0 0).2 ≤ 7 then 101 else 102, (pNv T N d 0 0).1, (pNv T N d 0 0).2) else if (T (N - d) = 61 ∨ T (N - d) = 33 ∨ T (N - d) = 60) ∧ 2 ≤ d ∧ T (N - d + 1) = 61 then (256 + (T (N - d)).toNatClampNeg, 0, d - 2) else (if T (N - d) ∈ bs_sg then 128 + (T (N - d)).toNatClampNeg else 102, 0, d - 1)
theorem lr_le {T : Nat → Int32} {N : Nat} : ∀ d, pLr T N d ≤ d
  | 0 => Nat.le_refl _
  | d + 1 => by
    rw [pLr]
    split
    · exact Nat.le_succ_of_le (lr_le d)
    · exact Nat.le_refl _
theorem nv_le {T : Nat → Int32} {N : Nat} : ∀ d i v, (pNv T N d i v).2 ≤ d
  | 0, _, _ => Nat.le_refl _
  | d + 1, i, v => by
    rw [pNv]
    split
    · exact Nat.le_succ_of_le (nv_le d _ _)
    · exact Nat.le_refl _
theorem sk_le {T : Nat → Int32} {N : Nat} : ∀ d x, pSk T N d x ≤ d
  | 0, _ => Nat.le_refl _
  | d + 1, x => by
    rw [pSk]
    split
    · exact Nat.le_succ_of_le (sk_le d _)
    · split
      · exact Nat.le_succ_of_le (sk_le d _)
      · split
        · exact Nat.le_succ_of_le (sk_le d _)
        · split
          · exact Nat.le_refl _
          · exact Nat.le_succ_of_le (sk_le d _)
/-- a token takes at least a sign, but for the end -/
theorem tk_lt {T : Nat → Int32} {N d : Nat} : (pTk T N d).2.2 ≤ d ∧ ((pTk T N d).1 ≠ 100 → (pTk T N d).2.2 < d) := by
  unfold pTk
  by_cases c0 : d = 0
  · rw [if_pos c0]; exact ⟨Nat.zero_le _, fun z => absurd rfl z⟩
  rw [if_neg c0]
  obtain ⟨e, he⟩ : ∃ e, d = e + 1 := ⟨d - 1, by omega⟩
  by_cases c1 : 97 ≤ T (N - d) ∧ T (N - d) ≤ 122
  · rw [if_pos c1]
    have : pLr T N d ≤ e := by
      subst he
      rw [pLr, if_pos c1]
      exact lr_le e
    exact ⟨by show pLr T N d ≤ d; omega, fun _ => by show pLr T N d < d; omega⟩
  rw [if_neg c1]
  by_cases c2 : 48 ≤ T (N - d) ∧ T (N - d) ≤ 57
  · rw [if_pos c2]
    have : (pNv T N d 0 0).2 ≤ e := by
      subst he
      rw [pNv, if_pos c2]
      exact nv_le e _ _
    exact ⟨by show (pNv T N d 0 0).2 ≤ d; omega, fun _ => by show (pNv T N d 0 0).2 < d; omega⟩
  rw [if_neg c2]
  split
  · exact ⟨by show d - 2 ≤ d; omega, fun _ => by show d - 2 < d; omega⟩
  · exact ⟨by show d - 1 ≤ d; omega, fun _ => by show d - 1 < d; omega⟩
theorem up_sk {I : IM} {a k j : Nat} {x y : Int32} (h : k ≠ j) : up (up I a k x) a j y = up (up I a j y) a k x := by
  funext c i
  simp only [up_at]
  by_cases q : c = a ∧ i = j
  · rw [if_pos q, if_pos q, if_neg (fun z => h (z.2.symm.trans q.2))]
  · rw [if_neg q, if_neg q]
theorem nuC {T : Nat → Int32} {N n D : Nat} (hN : N ≤ 900) (hD : D ≤ N) : ∀ (d f i : Nat) (v : Int32) (C : IM), d + i = D → d < f → TXc T N C → C 1 4 = nI (N - d) → C 1 3 = v → l_Rdr_readNumber_10 n f (nI (N - D)) C = some (if D - (pNv T N d i v).2 ≤ 7 then 101 else 102, up (up C 1 3 (pNv T N d i v).1) 1 4 (nI (N - (pNv T N d i v).2)))
  | 0, f + 1, i, v, C, hd, _, tx, h4, h3 => by
    have es : nI N - nI (N - D) = nI D := by rw [nsb (by omega)]; congr 1; omega
    rw [l_Rdr_readNumber_10, tx.1, h4, Nat.sub_zero, if_pos (Int32.le_refl _), b_Rdr_readNumber_84, h4, Nat.sub_zero, es, pNv, up_id h3, Nat.sub_zero, up_id (by rw [h4, Nat.sub_zero])]
    by_cases z : D ≤ 7
    · rw [if_pos (show nI D ≤ 7 from (nle (b := 7) (by omega) (by decide)).mpr z), if_pos z]
    · rw [if_neg (show ¬ nI D ≤ 7 from fun y => z ((nle (b := 7) (by omega) (by decide)).mp y)), if_neg z]
  | d + 1, f + 1, i, v, C, hd, hf, tx, h4, h3 => by
    have e2 : C 2 (N - (d + 1)) = T (N - (d + 1)) := tx.2 _ (by omega)
    have es : nI (N - (d + 1)) - nI (N - D) = nI i := by rw [nsb (by omega)]; congr 1; omega
    rw [l_Rdr_readNumber_10, tx.1, h4, if_neg (nk (by omega) (by omega)), chk_i (nki (by omega) (by decide)), nkc (by omega), e2, isD_f, Option.bind_some, es, pNv]
    by_cases c1 : 48 ≤ T (N - (d + 1)) ∧ T (N - (d + 1)) ≤ 57
    · rw [if_pos c1, if_pos c1, if_neg (by decide)]
      by_cases c7 : i < 7
      · have i7 : ¬ (7 : Int32) ≤ nI i := nk (N := 7) c7 (by decide)
        have := nuC (n := n) hN hD d f (i + 1) (v * 10 + (T (N - (d + 1)) - 48)) (up (up C 1 3 (v * 10 + (T (N - (d + 1)) - 48))) 1 4 (nI (N - d))) (by omega) (by omega) (TXc_u (TXc_u tx (Or.inr (by decide)) (by decide)) (Or.inr (by decide)) (by decide)) up_self (by rw [up_ne (Or.inr (by decide)), up_self])
        rw [if_neg i7, if_pos c7, lt, h3, b_Rdr_readNumber_71, lt, up_ne (Or.inr (show 4 ≠ 3 by decide)), h4, nk1, show N - (d + 1) + 1 = N - d by omega, this]
        rw [up_sk (show 4 ≠ 3 by decide), up_up, up_up]
      · have i7 : (7 : Int32) ≤ nI i := (nle (a := 7) (by decide) (by omega)).mpr (by omega)
        have := nuC (n := n) hN hD d f (i + 1) v (up C 1 4 (nI (N - d))) (by omega) (by omega) (TXc_u tx (Or.inr (by decide)) (by decide)) up_self (by rw [up_ne (Or.inr (by decide))]; exact h3)
        rw [if_pos i7, if_neg c7, b_Rdr_readNumber_71, lt, h4, nk1, show N - (d + 1) + 1 = N - d by omega, this]
        rw [up_sk (show 4 ≠ 3 by decide), up_up]
    · rw [if_neg c1, if_neg c1, if_pos rfl, b_Rdr_readNumber_84, h4, es, up_id h3, up_id h4]
      by_cases z : i ≤ 7
      · rw [if_pos (show nI i ≤ 7 from (nle (b := 7) (by omega) (by decide)).mpr z), if_pos (by show D - (d + 1) ≤ 7; omega)]
      · rw [if_neg (show ¬ nI i ≤ 7 from fun y => z ((nle (b := 7) (by omega) (by decide)).mp y)), if_neg (by show ¬ D - (d + 1) ≤ 7; omega)]
theorem sgn_c : ∀ c, c < 127 → (ixL bs_sg (nI c).toInt8.toInt32 0 < 0 ↔ ¬ nI c ∈ bs_sg) ∧ (¬ nI c < 0) ∧ ¬ (255 : Int32) < nI c := by decide +kernel
/-- a sign of the text, as a number -/
theorem vt_c {T : Nat → Int32} {N k : Nat} (h : VT T N) (hk : k < N) : (T k).toNatClampNeg < 127 ∧ 10 ≤ (T k).toNatClampNeg ∧ T k = nI (T k).toNatClampNeg := by
  have := h.2 k hk
  have b : 10 ≤ (T k).toInt ∧ (T k).toInt ≤ 126 := by
    rcases this with z | z
    · omega
    · rw [z]; decide
  have n0 : ¬ T k < 0 := by rw [ti]; simp only [Int32.reduceToInt]; omega
  have nn := nat_of n0
  exact ⟨by omega, by omega, nof n0⟩
/-- readToken -/
theorem tkC {T : Nat → Int32} {N n d : Nat} {J : JM} {C : IM} (hJ : JOK J) (hn : 1000 ≤ n) (vt : VT T N) (hd : d ≤ N) (tx : TXc T N C) (h4 : C 1 4 = nI (N - d)) : ∃ C', f_Rdr_readToken n J C = some (nI (pTk T N d).1, C') ∧ (∀ b, b ≠ 1 → C' b = C b) ∧ (∀ j, j ≠ 3 → j ≠ 4 → C' 1 j = C 1 j) ∧ C' 1 4 = nI (N - (pTk T N d).2.2) ∧ ((pTk T N d).1 = 101 → C' 1 3 = (pTk T N d).2.1) := by
  have hN := vt.1
  have n0 : ¬ nI (N - d) < 0 := fun z => by have := (nlt (b := 0) (by omega) (by decide)).mp z; omega
  unfold pTk
  by_cases c0 : d = 0
  · rw [if_pos c0]
    refine ⟨C, ?_, fun _ _ => rfl, fun _ _ _ => rfl, by rw [h4, c0], fun z => absurd z (by decide)⟩
    rw [f_Rdr_readToken, h4, if_neg n0, tx.1, if_neg (fun z => by have := (nlt (by omega) (by omega)).mp z; omega)]
    rfl
  rw [if_neg c0]
  have hk : N - d < N := by omega
  have e2 : C 2 (N - d) = T (N - d) := tx.2 _ hk
  obtain ⟨t1, t2, t3⟩ := vt_c vt hk
  have st : f_Rdr_readToken n J C = if (if 97 ≤ T (N - d) ∧ T (N - d) ≤ 122 then 1 else 0 : Int32) = 0 then (if (if 48 ≤ T (N - d) ∧ T (N - d) ≤ 57 then 1 else 0 : Int32) = 0 then (Option.bind (f_Rdr_readSign (T (N - d)) C) fun v10 => some (v10.1, v10.2)) else (Option.bind (f_Rdr_readNumber n C) fun v12 => some (v12.1, v12.2))) else (Option.bind (f_Rdr_readWord n J C) fun v14 => some (v14.1, v14.2)) := by
    rw [f_Rdr_readToken, h4, if_neg n0, tx.1, if_pos ((nlt (by omega) (by omega)).mpr (by omega)), chk_i (nki (by omega) (by decide)), nkc (by omega), e2, isL_f, Option.bind_some, isD_f, Option.bind_some]
    rfl
  rw [st]
  by_cases c1 : 97 ≤ T (N - d) ∧ T (N - d) ≤ 122
  · rw [if_pos c1, if_pos c1, if_neg (by decide), wrdC hJ hn hN hd tx h4, Option.bind_some]
    refine ⟨up C 1 4 (nI (N - pLr T N d)), rfl, fun b hb => fu hb, fun j _ hj => up_ne (Or.inr hj), up_self, fun z => ?_⟩
    rcases wix_s (ls := pLw T N d) with ⟨y, -⟩ | ⟨y, -⟩
    · have z' : wix (pLw T N d) = 101 := z
      omega
    · have z' : wix (pLw T N d) = 101 := z
      omega
  rw [if_neg c1, if_neg c1, if_pos rfl]
  by_cases c2 : 48 ≤ T (N - d) ∧ T (N - d) ≤ 57
  · rw [if_pos c2, if_pos c2, if_neg (by decide)]
    have := nuC (T := T) (n := n) hN hd d n 0 0 (up C 1 3 0) (by omega) (by omega) (TXc_u tx (Or.inr (by decide)) (by decide)) (by rw [up_ne (Or.inr (by decide))]; exact h4) up_self
    rw [f_Rdr_readNumber, lt, h4, this, Option.bind_some]
    refine ⟨up (up (up C 1 3 0) 1 3 (pNv T N d 0 0).1) 1 4 (nI (N - (pNv T N d 0 0).2)), ?_, fun b hb => by rw [fu hb, fu hb, fu hb], fun j h3 h4 => by rw [up_ne (Or.inr h4), up_ne (Or.inr h3), up_ne (Or.inr h3)], up_self, fun _ => by rw [up_ne (Or.inr (by decide)), up_self]⟩
    by_cases z : d - (pNv T N d 0 0).2 ≤ 7
    · rw [if_pos z, if_pos z]; rfl
    · rw [if_neg z, if_neg z]; rfl
  rw [if_neg c2, if_neg c2, if_pos rfl]
  obtain ⟨s1, s2, s3⟩ := sgn_c _ t1
  rw [← t3] at s1 s2 s3
  obtain ⟨C1, hC1⟩ : ∃ z, z = up C 1 4 (nI (N - d + 1)) := ⟨_, rfl⟩
  have c14 : C1 1 4 = nI (N - d + 1) := by rw [hC1, up_self]
  have tx1 : TXc T N C1 := by rw [hC1]; exact TXc_u tx (Or.inr (by decide)) (by decide)
  have e79 : b_Rdr_readSign_79 (T (N - d)) C1 = some (nI (if T (N - d) ∈ bs_sg then 128 + (T (N - d)).toNatClampNeg else 102), C1) := by
    rw [b_Rdr_readSign_79, chk_i s2, chk_i s3]
    by_cases z : T (N - d) ∈ bs_sg
    · rw [if_neg (fun y => s1.mp y z), if_pos z]
      have : (128 : Int32) + T (N - d) = nI (128 + (T (N - d)).toNatClampNeg) := by rw [← nad, ← t3]; rfl
      rw [this]
    · rw [if_pos (s1.mpr z), if_neg z]; rfl
  have sg : f_Rdr_readSign (T (N - d)) C = if (if T (N - d) = (61 : Int32) then 1 else (if T (N - d) = (33 : Int32) then 1 else (if T (N - d) = (60 : Int32) then 1 else 0)) : Int32) = 0 then (b_Rdr_readSign_79 (T (N - d)) C1) else (if nI N ≤ nI (N - d + 1) then (b_Rdr_readSign_79 (T (N - d)) C1) else (chk (inb (nI (N - d + 1)) 900) <| if C1 2 (nI (N - d + 1)).toNatClampNeg = (61 : Int32) then (some (256 + T (N - d), up C1 1 4 (nI (N - d + 2)))) else (b_Rdr_readSign_79 (T (N - d)) C1))) := by
    rw [f_Rdr_readSign, lt, h4, nk1, ← hC1, tx1.1, c14]
    simp only [lt, nk1]
  have one : (T (N - d) = 61 ∨ T (N - d) = 33 ∨ T (N - d) = 60) ∧ 2 ≤ d ∧ T (N - d + 1) = 61 → f_Rdr_readSign (T (N - d)) C = some (256 + T (N - d), up C1 1 4 (nI (N - d + 2))) := fun ⟨z1, z2, z3⟩ => by
    have e1 : (if T (N - d) = (61 : Int32) then 1 else (if T (N - d) = (33 : Int32) then 1 else (if T (N - d) = (60 : Int32) then 1 else 0)) : Int32) = 1 := by
      rcases z1 with z | z | z <;> rw [z] <;> rfl
    rw [sg, e1, if_neg (by decide), if_neg (nk (by omega) (by omega)), chk_i (nki (by omega) (by decide)), nkc (by omega), tx1.2 _ (by omega), if_pos z3]
  have two : ¬ ((T (N - d) = 61 ∨ T (N - d) = 33 ∨ T (N - d) = 60) ∧ 2 ≤ d ∧ T (N - d + 1) = 61) → f_Rdr_readSign (T (N - d)) C = b_Rdr_readSign_79 (T (N - d)) C1 := fun z => by
    rw [sg]
    by_cases z1 : T (N - d) = 61 ∨ T (N - d) = 33 ∨ T (N - d) = 60
    · have e1 : (if T (N - d) = (61 : Int32) then 1 else (if T (N - d) = (33 : Int32) then 1 else (if T (N - d) = (60 : Int32) then 1 else 0)) : Int32) = 1 := by
        rcases z1 with z | z | z <;> rw [z] <;> rfl
      rw [e1, if_neg (by decide)]
      by_cases z2 : 2 ≤ d
      · rw [if_neg (nk (by omega) (by omega)), chk_i (nki (by omega) (by decide)), nkc (by omega), tx1.2 _ (by omega), if_neg (fun z3 => z ⟨z1, z2, z3⟩)]
      · rw [if_pos ((nle (by omega) (by omega)).mpr (by omega))]
    · rw [if_neg (fun y => z1 (Or.inl y)), if_neg (fun y => z1 (Or.inr (Or.inl y))), if_neg (fun y => z1 (Or.inr (Or.inr y))), if_pos rfl]
  by_cases z : (T (N - d) = 61 ∨ T (N - d) = 33 ∨ T (N - d) = 60) ∧ 2 ≤ d ∧ T (N - d + 1) = 61
  · rw [if_pos z, one z, Option.bind_some]
    have e : (256 : Int32) + T (N - d) = nI (256 + (T (N - d)).toNatClampNeg) := by rw [← nad, ← t3]; rfl
    refine ⟨up C1 1 4 (nI (N - d + 2)), by rw [e], fun b hb => by rw [fu hb, hC1, fu hb], fun j _ hj => by rw [up_ne (Or.inr hj), hC1, up_ne (Or.inr hj)], by rw [up_self]; congr 1; show N - d + 2 = N - (d - 2); omega, fun y => ?_⟩
    have y' : 256 + (T (N - d)).toNatClampNeg = 101 := y
    omega
  · rw [if_neg z, two z, e79, Option.bind_some]
    refine ⟨C1, rfl, fun b hb => by rw [hC1, fu hb], fun j _ hj => by rw [hC1, up_ne (Or.inr hj)], by rw [c14]; congr 1; show N - d + 1 = N - (d - 1); omega, fun y => ?_⟩
    have y' : (if T (N - d) ∈ bs_sg then 128 + (T (N - d)).toNatClampNeg else 102) = 101 := y
    split at y' <;> omega
