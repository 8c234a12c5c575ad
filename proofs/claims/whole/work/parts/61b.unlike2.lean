/-! unlike -/
theorem fl_f {n w m off N : Nat} {I : IM} {acc : Int32} {Q : Nat → Prop} (hw : lenA w = N) (hm : m ≤ N) (hN : N ≤ 400) (ho : off + m ≤ 996) (hn : 1000 ≤ n) (h : FDp Q m acc) : ∃ r, f_Mod_firstUnlike n w (nI m) (nI off) acc I = some r ∧ FDp (fun k => Q k ∨ (k < m ∧ ¬ I w k = I A_other (off + k))) m r := fl_loop hw hm (by omega) ho m n acc Q (Nat.le_refl _) (by omega) h
theorem FDp_0 {m : Nat} : FDp (fun _ => False) m (-1) := Or.inl ⟨rfl, fun _ _ z => z⟩
theorem i0_3 {x : Int32} (h0 : ¬ x < 0) (h3 : ¬ (3 : Int32) < x) : x = 0 ∨ x = 1 ∨ x = 2 ∨ x = 3 := by
  have a := nneg h0
  rw [ti] at h3
  simp only [Int32.reduceToInt] at h3
  have b : x.toInt = 0 ∨ x.toInt = 1 ∨ x.toInt = 2 ∨ x.toInt = 3 := by omega
  rcases b with b | b | b | b
  · exact Or.inl (Int32.toInt_inj.mp b)
  · exact Or.inr (Or.inl (Int32.toInt_inj.mp b))
  · exact Or.inr (Or.inr (Or.inl (Int32.toInt_inj.mp b)))
  · exact Or.inr (Or.inr (Or.inr (Int32.toInt_inj.mp b)))
theorem unl_0 {n hd ot t t' : Nat} {tl tl' : Int32 → Nat → Prop} {I : IM} (hn : 1000 ≤ n) (p2 : isMch hd) (p3 : isMch ot) (r1 : RM t tl I hd (curM I)) (r2 : RM t' tl' I ot (othM I)) : ∃ r, f_Mch_unlikeCode n hd ot I = some r ∧ ∃ v, f_Mod_firstUnlike n A_code 64 20 (-1) (up I MO 0 0) = some v ∧ f_Mod_firstUnlike n A_codeTags 64 84 v (up I MO 0 0) = some r := by
  obtain ⟨a, a1, a2⟩ := up_f (n := n) (I := I) (m := 64) (ln_1 p2) (ln_1 p3) (by decide) (by decide) hn
  obtain ⟨b, b1, b2⟩ := up_f (n := n) (I := I) (m := 64) (ln_2 p2) (ln_2 p3) (by decide) (by decide) hn
  obtain ⟨r, c1, c2⟩ := FDp_or (I := I) (by decide) a2 b2
  obtain ⟨v, d1, d2⟩ := fl_f (n := n) (w := A_code) (m := 64) (off := 20) (I := up I MO 0 0) (N := 64) rfl (by decide) (by decide) (by decide) hn FDp_0
  obtain ⟨v', e1, e2⟩ := fl_f (n := n) (w := A_codeTags) (m := 64) (off := 84) (I := up I MO 0 0) (N := 64) rfl (by decide) (by decide) (by decide) hn d2
  have hr : v' = r := by
    refine FDp_u e2 c2 (fun k hk => ?_)
    obtain ⟨y1, y2⟩ := r1.1.1 k hk
    obtain ⟨z1, z2⟩ := r2.1.1 k hk
    replace y1 : I (hd + 1) k = I 119 k := y1
    replace y2 : I (hd + 2) k = I 120 k := y2
    replace z1 : I (ot + 1) k = I 139 (20 + k) := z1
    replace z2 : I (ot + 2) k = I 139 (84 + k) := z2
    rw [m0 (show A_code ≠ MO by decide), m0 (show A_codeTags ≠ MO by decide), m0 (show A_other ≠ MO by decide), m0 (show A_other ≠ MO by decide), y1, y2, z1, z2]
    simp [hk]
  refine ⟨r, ?_, v, d1, by rw [← hr]; exact e1⟩
  unfold f_Mch_unlikeCode
  rw [show f_Mch_unlikePlace n (hd + 1) (ot + 1) 64 I = some a from a1, Option.bind_some, show f_Mch_unlikePlace n (hd + 2) (ot + 2) 64 I = some b from b1, Option.bind_some, c1, Option.bind_some]
theorem unl_1 {n hd ot t t' : Nat} {tl tl' : Int32 → Nat → Prop} {I : IM} (hn : 1000 ≤ n) (p2 : isMch hd) (p3 : isMch ot) (r1 : RM t tl I hd (curM I)) (r2 : RM t' tl' I ot (othM I)) : ∃ r, f_Mch_unlikeWords n hd ot I = some r ∧ ∃ v v', f_Mod_firstUnlike n A_ints 96 148 (-1) (up I MO 0 0) = some v ∧ f_Mod_firstUnlike n A_held 96 244 v (up I MO 0 0) = some v' ∧ f_Mod_firstUnlike n A_owners 96 340 v' (up I MO 0 0) = some r := by
  obtain ⟨a, a1, a2⟩ := up_f (n := n) (I := I) (m := 96) (ln_4 p2) (ln_4 p3) (by decide) (by decide) hn
  obtain ⟨b, b1, b2⟩ := up_f (n := n) (I := I) (m := 96) (ln_5 p2) (ln_5 p3) (by decide) (by decide) hn
  obtain ⟨c, c1, c2⟩ := FDp_or (I := I) (by decide) a2 b2
  obtain ⟨g, g1, g2⟩ := up_f (n := n) (I := I) (m := 96) (ln_3 p2) (ln_3 p3) (by decide) (by decide) hn
  obtain ⟨r, h1, h2⟩ := FDp_or (I := I) (by decide) g2 c2
  obtain ⟨v, d1, d2⟩ := fl_f (n := n) (w := A_ints) (m := 96) (off := 148) (I := up I MO 0 0) (N := 96) rfl (by decide) (by decide) (by decide) hn FDp_0
  obtain ⟨v', e1, e2⟩ := fl_f (n := n) (w := A_held) (m := 96) (off := 244) (I := up I MO 0 0) (N := 96) rfl (by decide) (by decide) (by decide) hn d2
  obtain ⟨v'', f1, f2⟩ := fl_f (n := n) (w := A_owners) (m := 96) (off := 340) (I := up I MO 0 0) (N := 96) rfl (by decide) (by decide) (by decide) hn e2
  have hr : v'' = r := by
    refine FDp_u f2 h2 (fun k hk => ?_)
    obtain ⟨y1, y2, y3⟩ := r1.1.2.1 k hk
    obtain ⟨z1, z2, z3⟩ := r2.1.2.1 k hk
    replace y1 : I (hd + 3) k = I 121 k := y1
    replace y2 : I (hd + 4) k = I 122 k := y2
    replace y3 : I (hd + 5) k = I 123 k := y3
    replace z1 : I (ot + 3) k = I 139 (148 + k) := z1
    replace z2 : I (ot + 4) k = I 139 (244 + k) := z2
    replace z3 : I (ot + 5) k = I 139 (340 + k) := z3
    rw [m0 (show A_ints ≠ MO by decide), m0 (show A_held ≠ MO by decide), m0 (show A_owners ≠ MO by decide), m0 (show A_other ≠ MO by decide), m0 (show A_other ≠ MO by decide), m0 (show A_other ≠ MO by decide), y1, y2, y3, z1, z2, z3]
    simp [hk, or_assoc]
  refine ⟨r, ?_, v, v', d1, e1, by rw [← hr]; exact f1⟩
  unfold f_Mch_unlikeWords
  rw [show f_Mch_unlikePlace n (hd + 4) (ot + 4) 96 I = some a from a1, Option.bind_some, show f_Mch_unlikePlace n (hd + 5) (ot + 5) 96 I = some b from b1, Option.bind_some, c1, Option.bind_some, show f_Mch_unlikePlace n (hd + 3) (ot + 3) 96 I = some g from g1, Option.bind_some, h1, Option.bind_some]
theorem unl_2 {n hd ot t t' : Nat} {tl tl' : Int32 → Nat → Prop} {I : IM} (hn : 1000 ≤ n) (p2 : isMch hd) (p3 : isMch ot) (r1 : RM t tl I hd (curM I)) (r2 : RM t' tl' I ot (othM I)) : ∃ r, f_Mch_unlikeRegisters n hd ot I = some r ∧ ∃ v v', f_Mod_firstUnlike n A_registers 8 436 (-1) (up I MO 0 0) = some v ∧ f_Mod_firstUnlike n A_registerTags 8 444 v (up I MO 0 0) = some v' ∧ (0 ≤ v' → r = v') ∧ (¬ 0 ≤ v' → r = if I MO 42 = I 139 1 then (if I MO 43 = I 139 2 then v' else 8) else 8) := by
  obtain ⟨a, a1, a2⟩ := up_f (n := n) (I := I) (m := 9) (ln_7 p2) (ln_7 p3) (by decide) (by decide) hn
  obtain ⟨b, b1, b2⟩ := up_f (n := n) (I := I) (m := 9) (ln_6 p2) (ln_6 p3) (by decide) (by decide) hn
  obtain ⟨r, c1, c2⟩ := FDp_or (I := I) (by decide) b2 a2
  obtain ⟨v, d1, d2⟩ := fl_f (n := n) (w := A_registers) (m := 8) (off := 436) (I := up I MO 0 0) (N := 8) rfl (by decide) (by decide) (by decide) hn FDp_0
  obtain ⟨v', e1, e2⟩ := fl_f (n := n) (w := A_registerTags) (m := 8) (off := 444) (I := up I MO 0 0) (N := 8) rfl (by decide) (by decide) (by decide) hn d2
  have hk8 : ∀ k, k < 8 → (((False ∨ (k < 8 ∧ ¬ up I MO 0 0 A_registers k = up I MO 0 0 A_other (436 + k))) ∨ (k < 8 ∧ ¬ up I MO 0 0 A_registerTags k = up I MO 0 0 A_other (444 + k))) ↔ (¬ I (hd + 6) k = I (ot + 6) k ∨ ¬ I (hd + 7) k = I (ot + 7) k)) := fun k hk => by
    obtain ⟨y1, y2⟩ := r1.1.2.2.1 k hk
    obtain ⟨z1, z2⟩ := r2.1.2.2.1 k hk
    replace y1 : I (hd + 6) k = I 124 k := y1
    replace y2 : I (hd + 7) k = I 125 k := y2
    replace z1 : I (ot + 6) k = I 139 (436 + k) := z1
    replace z2 : I (ot + 7) k = I 139 (444 + k) := z2
    rw [m0 (show A_registers ≠ MO by decide), m0 (show A_registerTags ≠ MO by decide), m0 (show A_other ≠ MO by decide), m0 (show A_other ≠ MO by decide), y1, y2, z1, z2]
    simp [hk]
  have y8 : I (hd + 6) 8 = I MO 42 := r1.1.2.2.2.1
  have y9 : I (hd + 7) 8 = I MO 43 := r1.1.2.2.2.2
  have z8 : I (ot + 6) 8 = I 139 1 := r2.1.2.2.2.1
  have z9 : I (ot + 7) 8 = I 139 2 := r2.1.2.2.2.2
  refine ⟨r, ?_, v, v', d1, e1, fun h0 => ?_, fun h0 => ?_⟩
  · unfold f_Mch_unlikeRegisters
    rw [show f_Mch_unlikePlace n (hd + 7) (ot + 7) 9 I = some a from a1, Option.bind_some, show f_Mch_unlikePlace n (hd + 6) (ot + 6) 9 I = some b from b1, Option.bind_some, c1, Option.bind_some]
  · rcases e2 with ⟨g1, g2⟩ | ⟨q, g1, g2, g3, g4⟩
    · rw [g1] at h0
      exact absurd h0 (by decide)
    · refine FDp_u c2 (D' := fun k => ¬ I (hd + 6) k = I (ot + 6) k ∨ ¬ I (hd + 7) k = I (ot + 7) k) (Or.inr ⟨q, by omega, g2, (hk8 q g1).mp g3, fun k hk z => g4 k hk ((hk8 k (by omega)).mpr z)⟩) (fun k _ => Iff.rfl)
  · rcases e2 with ⟨g1, g2⟩ | ⟨q, g1, g2, g3, g4⟩
    · refine FDp_u c2 (D' := fun k => ¬ I (hd + 6) k = I (ot + 6) k ∨ ¬ I (hd + 7) k = I (ot + 7) k) ?_ (fun k _ => Iff.rfl)
      by_cases w1 : I MO 42 = I 139 1
      · by_cases w2 : I MO 43 = I 139 2
        · rw [if_pos w1, if_pos w2]
          refine Or.inl ⟨g1, fun k hk z => ?_⟩
          by_cases hk' : k < 8
          · exact g2 k hk' ((hk8 k hk').mpr z)
          · have : k = 8 := by omega
            subst this
            rw [y8, y9, z8, z9] at z
            exact z.elim (fun u => u w1) (fun u => u w2)
        · rw [if_pos w1, if_neg w2]
          exact Or.inr ⟨8, by decide, rfl, Or.inr (by rw [y9, z9]; exact w2), fun k hk z => g2 k hk ((hk8 k hk).mpr z)⟩
      · rw [if_neg w1]
        exact Or.inr ⟨8, by decide, rfl, Or.inl (by rw [y8, z8]; exact w1), fun k hk z => g2 k hk ((hk8 k hk).mpr z)⟩
    · rw [g2] at h0
      exact absurd (by rw [Int32.le_iff_toInt_le, nI_toInt (by omega)]; simp only [Int32.reduceToInt]; omega) h0
