/-! image: word, register, input, clear -/
theorem m16 {m : Nat} (hm : isMch m) : 16 ≤ m := by rcases hm with rfl | rfl | rfl <;> decide
theorem mem9 : ∀ j, j ∈ [2, 4, 5, 6, 10, 11, 12, 13, 14] → j ≠ 34 ∧ j ≠ 42 ∧ j ≠ 43 ∧ j ≠ 45 := by decide
theorem rng {v : Int32} {n : Nat} {hi : Int32} (hh : hi.toInt = n) (h1 : 0 ≤ v) (h2 : v ≤ hi) : ¬ v < 0 ∧ v.toNatClampNeg ≤ n ∧ v = nI v.toNatClampNeg := by
  have n0 : ¬ v < 0 := fun y => ile.mpr y h1
  rw [Int32.le_iff_toInt_le, hh] at h2
  have := nat_of n0
  exact ⟨n0, by omega, nof n0⟩
theorem wl0 {n : Nat} {J : JM} {R : IM} {w : Int32} (h : 0 ≤ R MO 14) (h6 : R MO 6 = 0) : b_Mod_wordLine_28 n J w R = some R := by
  rw [b_Mod_wordLine_28, tad h, Option.bind_some, tad h, Option.bind_some, if_pos h6, b_Mod_wordLine_77]
theorem L_word {x : Int32} {tl : Int32 → Nat → Prop} {m : Nat} {T : Nat → Int32} {N K k n : Nat} {J : JM} {C R : IM} (hx : x = 0 ∨ x = 1) (hm : isMch m) (hJ : JOK J) (hn : 1000 ≤ n) (vt : VT T N) (h : LI x tl m T N K k C R) (z : tC T N k = 46) : OUi x tl m T N K k R (f_Img_readWordLine m C) (f_Mod_wordLine n J R) := by
  have hm16 := m16 hm
  obtain ⟨C1, R1, a1, a2, -, a3, a4, a5, a6⟩ := adS (n := n) hJ hn vt h.1 (by omega) (by omega)
  obtain ⟨f1, f2⟩ := adS_f a4 a5 a6
  rcases tn (n := n) (lo := 0) (hi := 95) (sg := 0) hJ hn vt a3 (Or.inl ⟨by decide, rfl⟩) with ⟨k2, C2, R2, b1, b2, b3, b4, b5, b6, b7, b8, b9⟩ | ⟨C2, R2, b1, b2, b3, b8, b9⟩
  rotate_left
  · have e6 : R2 MO 6 = x := by rw [(RN_t f2 b9).2 6 (by decide)]; exact h.2.1
    refine Or.inr ⟨0, C2, ?_, Or.inl rfl, fun x0 => ⟨R2, ?_, b3, RX_n (RN_t f2 b9)⟩⟩
    · rw [f_Img_readWordLine, a1, Option.bind_some, b1, Option.bind_some, if_pos rfl]
    · rw [f_Mod_wordLine, a2, Option.bind_some, b2, Option.bind_some, if_pos b3.1, wl0 b3.1 (e6.trans x0)]
  have h14 : R2 MO 14 = -1 := b4.2.2.2
  rcases tnA (n := n) hJ hn vt b4 with ⟨k3, C3, R3, c1, c2, c3, c4, c5, c6, c7⟩ | ⟨C3, R3, c1, c2, c3, c6, c7⟩
  rotate_left
  · have fr := RN_t (RN_t f2 b9) c7
    have e6 : R3 MO 6 = x := by rw [fr.2 6 (by decide)]; exact h.2.1
    refine Or.inr ⟨0, C3, ?_, Or.inl rfl, fun x0 => ⟨R3, ?_, c3, RX_n fr⟩⟩
    · rw [f_Img_readWordLine, a1, Option.bind_some, b1, Option.bind_some, if_neg (show ¬ (1 : Int32) = 0 by decide), c1, Option.bind_some, if_pos rfl]
    · rw [f_Mod_wordLine, a2, Option.bind_some, b2, Option.bind_some, h14, if_neg ng1, c2, Option.bind_some, wl0 c3.1 (e6.trans x0)]
  have ec : f_Img_readWordLine m C = Option.bind (f_Img_readOptional 49 C3) fun v9 => if (v9.1 : Int32) = 0 then (some (0, v9.2)) else (Option.bind (f_Img_readOptional 44 v9.2) fun v12 => if (v12.1 : Int32) = 0 then (some (0, v12.2)) else (Option.bind (f_Mch_setWord m (C2 15 3) (C3 15 3) (v9.2 15 3) (v12.2 15 3) v12.2) fun v15 => some (1, v15))) := by
    rw [f_Img_readWordLine, a1, Option.bind_some, b1, Option.bind_some, if_neg (show ¬ (1 : Int32) = 0 by decide), c1, Option.bind_some, if_neg (show ¬ (1 : Int32) = 0 by decide)]
  have er : f_Mod_wordLine n J R = b_Mod_wordLine_28 n J (R2 MO 7) R3 := by
    rw [f_Mod_wordLine, a2, Option.bind_some, b2, Option.bind_some, h14, if_neg ng1, c2, Option.bind_some]
  have fr3 := RN_t (RN_t f2 b9) c7
  have fc3 := CN_t (CN_t f1 b8) c6
  rcases tO (n := n) (w := 49) hJ hn vt (by decide) c4 with ⟨k4, C4, R4, d1, d2, d3, d4, d6, d7⟩ | ⟨v, C4, R4, d1, d2, d3, d6, d7⟩
  rotate_left
  · have fr := RN_t fr3 d7
    have e6 : R4 MO 6 = x := by rw [fr.2 6 (by decide)]; exact h.2.1
    refine Or.inr ⟨0, C4, ?_, Or.inl rfl, fun x0 => ⟨R4, ?_, d3, RX_n fr⟩⟩
    · rw [ec]
      show Option.bind (f_Img_readOptional (nI 49) C3) _ = _
      rw [d1, Option.bind_some, if_pos rfl]
    · rw [er, b_Mod_wordLine_28]
      show Option.bind (f_Mod_takeAfter n J (nI (m2r 49)) R3) _ = _
      rw [d2, Option.bind_some, tad d3.1, Option.bind_some, if_pos (e6.trans x0), b_Mod_wordLine_77]
  rcases tO (n := n) (w := 44) hJ hn vt (by decide) d4 with ⟨k5, C5, R5, e1, e2, e3, e4, e6, e7⟩ | ⟨v, C5, R5, e1, e2, e3, e6, e7⟩
  rotate_left
  · have fr := RN_t (RN_t fr3 d7) e7
    have x6 : R5 MO 6 = x := by rw [fr.2 6 (by decide)]; exact h.2.1
    refine Or.inr ⟨0, C5, ?_, Or.inl rfl, fun x0 => ⟨R5, ?_, e3, RX_n fr⟩⟩
    · rw [ec]
      show Option.bind (f_Img_readOptional (nI 49) C3) _ = _
      rw [d1, Option.bind_some, if_neg (show ¬ (1 : Int32) = 0 by decide)]
      show Option.bind (f_Img_readOptional (nI 44) C4) _ = _
      rw [e1, Option.bind_some, if_pos rfl]
    · rw [er, b_Mod_wordLine_28]
      show Option.bind (f_Mod_takeAfter n J (nI (m2r 49)) R3) _ = _
      rw [d2, Option.bind_some]
      show Option.bind (f_Mod_takeAfter n J (nI (m2r 44)) R4) _ = _
      rw [e2, Option.bind_some, if_pos (x6.trans x0), b_Mod_wordLine_77]
  have fr := RN_t (RN_t fr3 d7) e7
  have fc := CN_t (CN_t fc3 d6) e6
  have li := LI_n hm h e4 fc fr
  have x6 : R5 MO 6 = x := li.2.1
  obtain ⟨n0, n95, nv⟩ := rng (n := 95) rfl b6 b7
  obtain ⟨p, hp⟩ : ∃ p, p = (R2 MO 7).toNatClampNeg := ⟨_, rfl⟩
  rw [← hp] at n95 nv
  have inx : inb (R2 MO 7) 96 := by rw [nv]; exact nki (by omega) (by decide)
  have l96 : ¬ (96 : Int32) ≤ R2 MO 7 := by rw [nv]; exact nk (N := 96) (by omega) (by decide)
  have fC : f_Img_readWordLine m C = some (1, up (up (up C5 (m + 3) p (R3 MO 7)) (m + 4) p (C4 15 3)) (m + 5) p (C5 15 3)) := by
    rw [ec]
    show Option.bind (f_Img_readOptional (nI 49) C3) _ = _
    rw [d1, Option.bind_some, if_neg (show ¬ (1 : Int32) = 0 by decide)]
    show Option.bind (f_Img_readOptional (nI 44) C4) _ = _
    rw [e1, Option.bind_some, if_neg (show ¬ (1 : Int32) = 0 by decide), b5, c5]
    simp only [f_Mch_setWord, f_Mch_hasWord, if_neg n0, if_neg l96, Option.bind_some, if_neg (show ¬ (1 : Int32) = 0 by decide), chk_i inx, lt, b_Mch_setWord_30, ← hp]
  have fR : f_Mod_wordLine n J R = if x = 0 then some R5 else some (up (up (up R5 A_ints p (R3 MO 7)) A_held p (C4 15 3)) A_owners p (C5 15 3)) := by
    rw [er, b_Mod_wordLine_28]
    show Option.bind (f_Mod_takeAfter n J (nI (m2r 49)) R3) _ = _
    rw [d2, Option.bind_some]
    show Option.bind (f_Mod_takeAfter n J (nI (m2r 44)) R4) _ = _
    rw [e2, Option.bind_some]
    dsimp only
    by_cases q : x = 0
    · rw [if_pos (x6.trans q), if_pos q, b_Mod_wordLine_77]
    · rw [if_neg (fun y => q (x6.symm.trans y)), if_neg q]
      simp only [chk_i inx, lt, b_Mod_wordLine_77, ← hp]
  have k16 : ∀ b, b < 16 → up (up (up C5 (m + 3) p (R3 MO 7)) (m + 4) p (C4 15 3)) (m + 5) p (C5 15 3) b = C5 b := fun b hb => by rw [fu (by omega), fu (by omega), fu (by omega)]
  have k13 : up (up (up C5 (m + 3) p (R3 MO 7)) (m + 4) p (C4 15 3)) (m + 5) p (C5 15 3) (m + 13) 5 = C5 (m + 13) 5 := by rw [fu (by omega), fu (by omega), fu (by omega)]
  rcases hx with hx | hx
  · rw [if_pos hx] at fR
    exact Or.inl ⟨k5, _, _, fC, fR, by omega, LI_w li k16 k13 (fun _ _ => rfl) rfl (fun y => by rw [hx] at y; exact absurd y (by decide)), RX_n fr⟩
  · rw [if_neg (by rw [hx]; decide)] at fR
    refine Or.inl ⟨k5, _, _, fC, fR, by omega, LI_w li k16 k13 (fun _ _ => by rw [fu (by decide), fu (by decide), fu (by decide)]) (by rw [fu (by decide), fu (by decide), fu (by decide)]) (fun y => QM_word (li.2.2.2.2.2.2 y)), ?_⟩
    rw [hx]
    exact RX_t (RX_n fr) (RX_t (RX_a (by decide)) (RX_t (RX_a (by decide)) (RX_a (by decide))))
theorem rl0 {n : Nat} {J : JM} {R : IM} {w : Int32} (h : 0 ≤ R MO 14) (h6 : R MO 6 = 0) : b_Mod_registerLine_28 n J w R = some R := by
  rw [b_Mod_registerLine_28, tad h, Option.bind_some, if_pos h6, b_Mod_registerLine_66, if_pos h6, b_Mod_registerLine_87]
theorem L_reg {x : Int32} {tl : Int32 → Nat → Prop} {m : Nat} {T : Nat → Int32} {N K k n : Nat} {J : JM} {C R : IM} (hx : x = 0 ∨ x = 1) (hm : isMch m) (hJ : JOK J) (hn : 1000 ≤ n) (vt : VT T N) (h : LI x tl m T N K k C R) (z : tC T N k = 47) : OUi x tl m T N K k R (f_Img_readRegister m C) (f_Mod_registerLine n J R) := by
  have hm16 := m16 hm
  obtain ⟨C1, R1, a1, a2, -, a3, a4, a5, a6⟩ := adS (n := n) hJ hn vt h.1 (by omega) (by omega)
  obtain ⟨f1, f2⟩ := adS_f a4 a5 a6
  rcases tn (n := n) (lo := 0) (hi := 8) (sg := 0) hJ hn vt a3 (Or.inl ⟨by decide, rfl⟩) with ⟨k2, C2, R2, b1, b2, b3, b4, b5, b6, b7, b8, b9⟩ | ⟨C2, R2, b1, b2, b3, b8, b9⟩
  rotate_left
  · have e6 : R2 MO 6 = x := by rw [(RN_t f2 b9).2 6 (by decide)]; exact h.2.1
    refine Or.inr ⟨0, C2, ?_, Or.inl rfl, fun x0 => ⟨R2, ?_, b3, RX_n (RN_t f2 b9)⟩⟩
    · rw [f_Img_readRegister, a1, Option.bind_some, b1, Option.bind_some, if_pos rfl]
    · rw [f_Mod_registerLine, a2, Option.bind_some, b2, Option.bind_some, if_pos b3.1, rl0 b3.1 (e6.trans x0)]
  have h14 : R2 MO 14 = -1 := b4.2.2.2
  rcases tnA (n := n) hJ hn vt b4 with ⟨k3, C3, R3, c1, c2, c3, c4, c5, c6, c7⟩ | ⟨C3, R3, c1, c2, c3, c6, c7⟩
  rotate_left
  · have fr := RN_t (RN_t f2 b9) c7
    have e6 : R3 MO 6 = x := by rw [fr.2 6 (by decide)]; exact h.2.1
    refine Or.inr ⟨0, C3, ?_, Or.inl rfl, fun x0 => ⟨R3, ?_, c3, RX_n fr⟩⟩
    · rw [f_Img_readRegister, a1, Option.bind_some, b1, Option.bind_some, if_neg (show ¬ (1 : Int32) = 0 by decide), c1, Option.bind_some, if_pos rfl]
    · rw [f_Mod_registerLine, a2, Option.bind_some, b2, Option.bind_some, h14, if_neg ng1, c2, Option.bind_some, rl0 c3.1 (e6.trans x0)]
  have ec : f_Img_readRegister m C = Option.bind (f_Img_readOptional 42 C3) fun v9 => if (v9.1 : Int32) = 0 then (some (0, v9.2)) else (Option.bind (f_Mch_setRegister m (C2 15 3) (C3 15 3) (v9.2 15 3) v9.2) fun v12 => some (1, v12)) := by
    rw [f_Img_readRegister, a1, Option.bind_some, b1, Option.bind_some, if_neg (show ¬ (1 : Int32) = 0 by decide), c1, Option.bind_some, if_neg (show ¬ (1 : Int32) = 0 by decide)]
  have er : f_Mod_registerLine n J R = b_Mod_registerLine_28 n J (R2 MO 7) R3 := by
    rw [f_Mod_registerLine, a2, Option.bind_some, b2, Option.bind_some, h14, if_neg ng1, c2, Option.bind_some]
  have fr3 := RN_t (RN_t f2 b9) c7
  have fc3 := CN_t (CN_t f1 b8) c6
  rcases tO (n := n) (w := 42) hJ hn vt (by decide) c4 with ⟨k4, C4, R4, d1, d2, d3, d4, d6, d7⟩ | ⟨v, C4, R4, d1, d2, d3, d6, d7⟩
  rotate_left
  · have fr := RN_t fr3 d7
    have e6 : R4 MO 6 = x := by rw [fr.2 6 (by decide)]; exact h.2.1
    refine Or.inr ⟨0, C4, ?_, Or.inl rfl, fun x0 => ⟨R4, ?_, d3, RX_n fr⟩⟩
    · rw [ec]
      show Option.bind (f_Img_readOptional (nI 42) C3) _ = _
      rw [d1, Option.bind_some, if_pos rfl]
    · rw [er, b_Mod_registerLine_28]
      show Option.bind (f_Mod_takeAfter n J (nI (m2r 42)) R3) _ = _
      rw [d2, Option.bind_some, if_pos (e6.trans x0), b_Mod_registerLine_66, if_pos (e6.trans x0), b_Mod_registerLine_87]
  have fr := RN_t fr3 d7
  have fc := CN_t fc3 d6
  have li := LI_n hm h d4 fc fr
  have x6 : R4 MO 6 = x := li.2.1
  obtain ⟨n0, n8, nv⟩ := rng (n := 8) rfl b6 b7
  obtain ⟨p, hp⟩ : ∃ p, p = (R2 MO 7).toNatClampNeg := ⟨_, rfl⟩
  rw [← hp] at n8 nv
  have in9 : inb (R2 MO 7) 9 := by rw [nv]; exact nki (by omega) (by decide)
  have l8 : ¬ (8 : Int32) < R2 MO 7 := by
    rw [nv]
    exact fun y => by have := (nlt (a := 8) (by decide) (by omega)).mp y; omega
  have fC : f_Img_readRegister m C = some (1, up (up C4 (m + 6) p (R3 MO 7)) (m + 7) p (C4 15 3)) := by
    rw [ec]
    show Option.bind (f_Img_readOptional (nI 42) C3) _ = _
    rw [d1, Option.bind_some, if_neg (show ¬ (1 : Int32) = 0 by decide), b5, c5]
    simp only [f_Mch_setRegister, if_neg n0, if_neg l8, Option.bind_some, chk_i in9, lt, b_Mch_setRegister_24, ← hp]
  have er2 : f_Mod_registerLine n J R = if x = 0 then some R4 else if R2 MO 7 = 8 then some (up (up R4 MO 42 (R3 MO 7)) MO 43 (C4 15 3)) else chk (inb (R2 MO 7) 8) (some (up (up R4 A_registers p (R3 MO 7)) A_registerTags p (C4 15 3))) := by
    rw [er, b_Mod_registerLine_28]
    show Option.bind (f_Mod_takeAfter n J (nI (m2r 42)) R3) _ = _
    rw [d2, Option.bind_some]
    dsimp only
    by_cases q : x = 0
    · rw [if_pos (x6.trans q), if_pos q, b_Mod_registerLine_66, if_pos (x6.trans q), b_Mod_registerLine_87]
    · rw [if_neg (fun y => q (x6.symm.trans y)), if_neg q, b_Mod_registerLine_66, if_neg (fun y => q (x6.symm.trans y))]
      simp only [lt, b_Mod_registerLine_87, ← hp]
  have k16 : ∀ b, b < 16 → up (up C4 (m + 6) p (R3 MO 7)) (m + 7) p (C4 15 3) b = C4 b := fun b hb => by rw [fu (by omega), fu (by omega)]
  have k13 : up (up C4 (m + 6) p (R3 MO 7)) (m + 7) p (C4 15 3) (m + 13) 5 = C4 (m + 13) 5 := by rw [fu (by omega), fu (by omega)]
  rcases hx with hx | hx
  · rw [if_pos hx] at er2
    exact Or.inl ⟨k4, _, _, fC, er2, by omega, LI_w li k16 k13 (fun _ _ => rfl) rfl (fun y => by rw [hx] at y; exact absurd y (by decide)), RX_n fr⟩
  · rw [if_neg (by rw [hx]; decide)] at er2
    by_cases p8 : p = 8
    · rw [if_pos (by rw [nv, p8]; rfl)] at er2
      rw [p8] at fC k16 k13
      refine Or.inl ⟨k4, _, _, fC, er2, by omega, LI_w li k16 k13 (fun j hj => by
        obtain ⟨w1, w2, w3, w4⟩ := mem9 j hj
        rw [up_ne (Or.inr w3), up_ne (Or.inr w2)]) (by rw [fu (by decide), fu (by decide)]) (fun y => QM_pc (li.2.2.2.2.2.2 y)), ?_⟩
      rw [hx]
      exact RX_t (RX_n fr) (RX_t (RX_u1 (by decide)) (RX_u1 (by decide)))
    · rw [if_neg (by rw [nv]; exact fun y => p8 (nij (b := 8) (by omega) (by decide) y)), chk_i (by rw [nv]; exact nki (by omega) (by decide))] at er2
      refine Or.inl ⟨k4, _, _, fC, er2, by omega, LI_w li k16 k13 (fun j hj => by rw [fu (by decide), fu (by decide)]) (by rw [fu (by decide), fu (by decide)]) (fun y => QM_reg (by omega) (li.2.2.2.2.2.2 y)), ?_⟩
      rw [hx]
      exact RX_t (RX_n fr) (RX_t (RX_a (by decide)) (RX_a (by decide)))
