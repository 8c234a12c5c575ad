/-! the journal -/
theorem div16 {u : Int32} (h0 : 0 ≤ u.toInt) : (u / 16).toInt = u.toInt / 16 := by
  have hl := u.toInt_lt
  rw [Int32.toInt_div]
  simp only [Int32.reduceToInt]
  rw [Int.tdiv_eq_ediv_of_nonneg h0, Int.bmod_def]
  split <;> omega
theorem remS {u : Int32} (h0 : 0 ≤ u.toInt) : (u - u / 16 * 16).toInt = u.toInt % 16 := by
  have hl := u.toInt_lt
  have hd := div16 h0
  have hm : (u / 16 * 16).toInt = u.toInt / 16 * 16 := by
    simp only [Int32.toInt_mul, hd, Int32.reduceToInt, Int.bmod_def]
    split <;> omega
  simp only [Int32.toInt_sub, hm, Int.bmod_def]
  split <;> omega
theorem iadd {a b : Int32} (h1 : -1000000000 ≤ a.toInt + b.toInt) (h2 : a.toInt + b.toInt ≤ 1000000000) : (a + b).toInt = a.toInt + b.toInt := by
  simp only [Int32.toInt_add, Int.bmod_def]
  split <;> omega
theorem isub {a b : Int32} (h1 : -1000000000 ≤ a.toInt - b.toInt) (h2 : a.toInt - b.toInt ≤ 1000000000) : (a - b).toInt = a.toInt - b.toInt := by
  simp only [Int32.toInt_sub, Int.bmod_def]
  split <;> omega
theorem imul6 {a : Int32} (h1 : 0 ≤ a.toInt) (h2 : a.toInt ≤ 100000) : (a * 6).toInt = a.toInt * 6 := by
  simp only [Int32.toInt_mul, Int32.reduceToInt, Int.bmod_def]
  split <;> omega
theorem len18 {m : Nat} (h : isMch m) : lenA (m + 17 + 1) = 96 := by rcases h with rfl | rfl | rfl <;> rfl
theorem ma_journal {PX : Nat → IM → Prop} (hP : PXF PX) : Ma_journal (Rl PX) := by
  intro a0 a1 t ht rl hd ot pt it J I p1 p2 p3 p4 p5 hJ hR
  obtain ⟨d, tx, rc, wi, h69, rm, ro, px⟩ := id hR
  obtain ⟨b0, b1, b2, b3, b4⟩ := rm.2.2.2.2.2.2.2.2
  obtain ⟨-, -, k16, k6⟩ := rc hd p2
  obtain ⟨jn, hj⟩ : ∃ z, z = I MO 63 := ⟨_, rfl⟩
  replace b0 : 0 ≤ jn.toInt := by rw [hj]; exact b0
  replace b1 : jn.toInt ≤ 2000 * t := by rw [hj]; exact b1
  replace b2 : I (hd + 17) 0 = if jn < 16 then jn else 16 := by rw [hj]; exact b2
  replace b3 : (I (hd + 17) 1).toInt = if jn < 16 then 0 else jn.toInt % 16 := by rw [hj]; exact b3
  replace b4 : ∀ k : Nat, k < 96 → (k : Int) < 6 * jn.toInt → I (hd + 18) k = I A_entries k := by rw [hj]; exact b4
  obtain ⟨sz, hsz⟩ : ∃ z, z = I (hd + 17) 0 := ⟨_, rfl⟩
  have bz : sz.toInt = if jn.toInt < 16 then jn.toInt else 16 := by
    rw [hsz, b2]
    by_cases q : jn < 16
    · rw [if_pos q, if_pos (by rw [ti] at q; exact q)]
    · rw [if_neg q, if_neg (by rw [ti] at q; exact q)]
      rfl
  have bf : (I (hd + 17) 1).toInt = if jn.toInt < 16 then 0 else jn.toInt % 16 := by
    rw [b3]
    by_cases q : jn < 16
    · rw [if_pos q, if_pos (by rw [ti] at q; exact q)]
    · rw [if_neg q, if_neg (by rw [ti] at q; exact q)]
  obtain ⟨fi, hfi⟩ : ∃ z, z = I (hd + 17) 1 := ⟨_, rfl⟩
  rw [← hfi] at bf
  have em : (if (16 : Int32) ≤ I MO 63 then (16 : Int32) else I MO 63) = sz := by
    rw [hsz, b2, ← hj]
    by_cases q : jn < 16
    · rw [if_pos q, if_neg (by rw [ti] at q; rw [tl]; omega)]
    · rw [if_neg q, if_pos (by rw [ti] at q; rw [tl]; omega)]
  have zr : 0 ≤ sz.toInt ∧ sz.toInt ≤ 16 := by rw [bz]; split <;> omega
  have es1 : (sz - 1).toInt = sz.toInt - 1 := sub1 zr.1
  by_cases c1 : a0 < 0
  · refine Or.inr (Or.inl ⟨0, 0, up I MO 0 1, ?_, ?_, up_self, Rl_thr hP p2 p3 hR⟩)
    · rw [t_Eng_journal, if_pos c1]; rfl
    · simp only [f_Mod_journal, f_Mod_in, if_pos c1, Option.bind_some, if_true, b_Mod_journal_53, b_Mod_journal_54, refuse_1, if_neg (show ¬ (1 : Int32) = 0 by decide)]
  have n1 := nneg c1
  by_cases c2 : a0 < I (hd + 17) 0
  · have h2 : a0.toInt < sz.toInt := by rw [ti, ← hsz] at c2; exact c2
    have c2' : ¬ sz - 1 < a0 := by rw [ti, es1]; omega
    by_cases c3 : a1 < 0
    · refine Or.inr (Or.inr ⟨0, 0, up I MO 0 2, ?_, ?_, up_self, Rl_thr hP p2 p3 hR⟩)
      · rw [t_Eng_journal, if_neg c1, if_pos c2, if_pos c3]; rfl
      · simp only [f_Mod_journal, f_Mod_in, em, if_neg c1, if_neg c2', Option.bind_some, if_neg (show ¬ (1 : Int32) = 0 by decide), if_pos c3, if_true, refuse_2]
    have n3 := nneg c3
    by_cases c4 : a1 < 6
    · have h4 : a1.toInt < 6 := by rw [ti] at c4; exact c4
      have c4' : ¬ (5 : Int32) < a1 := by rw [ti]; simp only [Int32.reduceToInt]; omega
      -- the reference's place
      have u1 : (jn - 1).toInt = jn.toInt - 1 := sub1 b0
      have u0 : a0.toInt < jn.toInt := by rw [bz] at h2; split at h2 <;> omega
      have u2 : (jn - 1 - a0).toInt = jn.toInt - 1 - a0.toInt := by rw [isub (by omega) (by omega), u1]
      have u3 := remS (u := jn - 1 - a0) (by omega)
      rw [u2] at u3
      obtain ⟨w, hw⟩ : ∃ z, z = (jn - 1 - a0 - (jn - 1 - a0) / 16 * 16) := ⟨_, rfl⟩
      rw [← hw] at u3
      have w0 : 0 ≤ w.toInt ∧ w.toInt < 16 := by omega
      have u4 : (6 * w).toInt = 6 * w.toInt := by rw [Int32.mul_comm, imul6 w0.1 (by omega)]; omega
      have u5 : (6 * w + a1).toInt = 6 * w.toInt + a1.toInt := by rw [iadd (by omega) (by omega), u4]
      have nM : ¬ (6 * w + a1) < 0 := by rw [ti, u5]; simp only [Int32.reduceToInt]; omega
      have iM : inb (6 * w + a1) 96 := inb_of nM (by rw [u5]; omega)
      -- the class's place is the same
      have v1 : (sz - 1 - a0).toInt = sz.toInt - 1 - a0.toInt := by rw [isub (by omega) (by omega), es1]
      have fr : 0 ≤ fi.toInt ∧ fi.toInt < 16 := by rw [bf]; split <;> omega
      have v2 : (fi + (sz - 1 - a0)).toInt = fi.toInt + (sz.toInt - 1 - a0.toInt) := by rw [iadd (by omega) (by omega), v1]
      obtain ⟨g, hg⟩ : ∃ z, z = (if (16 : Int32) ≤ fi + (sz - 1 - a0) then (fi + (sz - 1 - a0) - 16) else (fi + (sz - 1 - a0)) : Int32) := ⟨_, rfl⟩
      have v3 : g = w := by
        apply Int32.toInt_inj.mp
        rw [hg]
        by_cases q : (16 : Int32) ≤ fi + (sz - 1 - a0)
        · rw [if_pos q]
          rw [tl, v2] at q
          simp only [Int32.reduceToInt] at q
          rw [isub (by rw [v2]; simp only [Int32.reduceToInt]; omega) (by rw [v2]; simp only [Int32.reduceToInt]; omega), v2]
          simp only [Int32.reduceToInt]
          by_cases hq : jn.toInt < 16
          · rw [if_pos hq] at bf bz
            omega
          · rw [if_neg hq] at bf bz
            omega
        · rw [if_neg q]
          rw [tl, v2] at q
          simp only [Int32.reduceToInt] at q
          rw [v2]
          by_cases hq : jn.toInt < 16
          · rw [if_pos hq] at bf bz
            omega
          · rw [if_neg hq] at bf bz
            omega
      have v4 : g * 6 + a1 = 6 * w + a1 := by rw [v3, Int32.mul_comm]
      have l18 := len18 p2
      have e18 : hd + 17 + 1 = hd + 18 := rfl
      have n96 : ¬ (Int32.ofNat (lenA (hd + 17 + 1))) ≤ 6 * w + a1 := by rw [l18, tl, u5]; show ¬ (96 : Int) ≤ _; omega
      have ev := b4 (6 * w + a1).toNatClampNeg (nat_lt nM (by rw [u5]; omega)) (by rw [nat_of nM, u5]; omega)
      refine Or.inl ⟨0, I (hd + 18) (6 * w + a1).toNatClampNeg, up I MO 0 0, ?_, ?_, up_self, Rl_thr hP p2 p3 hR⟩
      · rw [f_Eng_journal, if_neg c1, if_pos c2, if_neg c3, if_pos c4]
        simp only [f_Rng_cell, f_Rng_startOf, ← hsz, ← hfi, k16, k6, Option.bind_some, ← hg, v4, if_neg nM, if_neg n96]
        rw [l18, chk_i iM]
        rfl
      · simp only [f_Mod_journal, f_Mod_in, em, if_neg c1, if_neg c2', Option.bind_some, if_neg (show ¬ (1 : Int32) = 0 by decide), if_neg c3, if_neg c4', refuse_0, if_true, m0j (show 63 ≠ 0 by decide)]
        simp only [← hj, ← hw, chk_i iM, m0 (show A_entries ≠ MO by decide), ev]
    · have c4' : (5 : Int32) < a1 := by
        rw [ti] at c4 ⊢
        simp only [Int32.reduceToInt] at c4 ⊢
        omega
      refine Or.inr (Or.inr ⟨0, 0, up I MO 0 2, ?_, ?_, up_self, Rl_thr hP p2 p3 hR⟩)
      · rw [t_Eng_journal, if_neg c1, if_pos c2, if_neg c3, if_neg c4]; rfl
      · simp only [f_Mod_journal, f_Mod_in, em, if_neg c1, if_neg c2', Option.bind_some, if_neg (show ¬ (1 : Int32) = 0 by decide), if_neg c3, if_pos c4', if_true, refuse_2]
  · have c2' : sz - 1 < a0 := by
      rw [ti, ← hsz] at c2
      rw [ti, es1]
      omega
    refine Or.inr (Or.inl ⟨0, 0, up I MO 0 1, ?_, ?_, up_self, Rl_thr hP p2 p3 hR⟩)
    · rw [t_Eng_journal, if_neg c1, if_neg c2]; rfl
    · simp only [f_Mod_journal, f_Mod_in, em, if_neg c1, if_pos c2', Option.bind_some, if_true, b_Mod_journal_53, b_Mod_journal_54, refuse_1, if_neg (show ¬ (1 : Int32) = 0 by decide)]
