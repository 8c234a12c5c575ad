/-! image: input, clear, instruction -/
theorem flF {T : Nat → Int32} {N K k : Nat} {C R : IM} (vt : VT T N) (h : ST T N K k C R) : f_Mod_fail R = some (up R MO 14 (nI (tP T N k))) ∧ FL T N C (up R MO 14 (nI (tP T N k))) := by
  obtain ⟨ra, rb, h4, h14⟩ := h
  obtain ⟨p1, p2⟩ := tP_b (k := k) vt
  refine ⟨?_, ?_, ?_, ra.1⟩
  · rw [f_Mod_fail, h14, if_neg ng1, lt, rb.2.2.1]
  · rw [up_self]; exact p1
  · rw [up_self, h4, if_pos rfl, ra.2.2.2.2.2.1]
theorem L_inp {x : Int32} {tl : Int32 → Nat → Prop} {m : Nat} {T : Nat → Int32} {N K k n : Nat} {J : JM} {C R : IM} (hx : x = 0 ∨ x = 1) (hm : isMch m) (hJ : JOK J) (hn : 1000 ≤ n) (vt : VT T N) (h : LI x tl m T N K k C R) (z : tC T N k = 48) : OUi x tl m T N K k R (f_Img_readInput m C) (f_Mod_inputLine n J R) := by
  have hm16 := m16 hm
  obtain ⟨st, i6, i2, i4, i5, ⟨p, hp, ip⟩, i8⟩ := id h
  have e5 : C (m + 13) (5 : Int32).toNatClampNeg = nI p := i5.trans ip
  by_cases p16 : p = 16
  · obtain ⟨g1, g2⟩ := flF vt st
    refine Or.inr ⟨0, C, ?_, Or.inl rfl, fun _ => ⟨_, ?_, g2, RX_u (by decide)⟩⟩
    · rw [f_Img_readInput, e5, p16, if_neg (by decide)]
    · rw [f_Mod_inputLine, ip, p16, if_pos (show nI 16 = 16 from rfl), g1, Option.bind_some]
  have pl : nI p < 16 := (nlt (b := 16) (by omega) (by decide)).mpr (by omega)
  have pn : ¬ nI p = 16 := fun y => p16 (nij (b := 16) (by omega) (by decide) y)
  have p0 : ¬ nI p < 0 := fun y => by have := (nlt (b := 0) (by omega) (by decide)).mp y; omega
  have pg : ¬ (16 : Int32) ≤ nI p := nk (N := 16) (by omega) (by decide)
  have st0 : ST T N K k C (up R MO 5 (nI (p + 1))) := ⟨st.1, RB_u st.2.1 (by decide), st.2.2.1, by rw [up_ne (Or.inr (by decide))]; exact st.2.2.2⟩
  obtain ⟨C1, R1, a1, a2, -, a3, a4, a5, a6⟩ := adS (n := n) hJ hn vt st0 (by omega) (by omega)
  obtain ⟨f1, f2⟩ := adS_f a4 a5 a6
  have rx0 : ∀ {S : IM}, RN (up R MO 5 (nI (p + 1))) S → RX x R S := fun y => RX_t (RX_u (by decide)) (RX_n y)
  rcases tnA (n := n) hJ hn vt a3 with ⟨k3, C3, R3, c1, c2, c3, c4, c5, c6, c7⟩ | ⟨C3, R3, c1, c2, c3, c6, c7⟩
  rotate_left
  · have fr := RN_t f2 c7
    have e6 : R3 MO 6 = x := by rw [fr.2 6 (by decide), up_ne (Or.inr (by decide))]; exact i6
    refine Or.inr ⟨0, C3, ?_, Or.inl rfl, fun x0 => ⟨R3, ?_, c3, x0 ▸ rx0 fr⟩⟩
    · rw [f_Img_readInput, e5, if_pos pl, a1, Option.bind_some, c1, Option.bind_some, if_pos rfl]
    · rw [f_Mod_inputLine, ip, if_neg pn, lt, nk1, a2, Option.bind_some, c2, Option.bind_some, tad c3.1, Option.bind_some, if_pos (e6.trans x0), b_Mod_inputLine_81]
  have ec : f_Img_readInput m C = Option.bind (f_Img_readOptional 42 C3) fun v7 => if (v7.1 : Int32) = 0 then (some (0, v7.2)) else (Option.bind (f_Mch_addInput m (C3 15 3) (v7.2 15 3) v7.2) fun v10 => some (1, v10)) := by
    rw [f_Img_readInput, e5, if_pos pl, a1, Option.bind_some, c1, Option.bind_some, if_neg (show ¬ (1 : Int32) = 0 by decide)]
  rcases tO (n := n) (w := 42) hJ hn vt (by decide) c4 with ⟨k4, C4, R4, d1, d2, d3, d4, d6, d7⟩ | ⟨v, C4, R4, d1, d2, d3, d6, d7⟩
  rotate_left
  · have fr := RN_t (RN_t f2 c7) d7
    have e6 : R4 MO 6 = x := by rw [fr.2 6 (by decide), up_ne (Or.inr (by decide))]; exact i6
    refine Or.inr ⟨0, C4, ?_, Or.inl rfl, fun x0 => ⟨R4, ?_, d3, x0 ▸ rx0 fr⟩⟩
    · rw [ec]
      show Option.bind (f_Img_readOptional (nI 42) C3) _ = _
      rw [d1, Option.bind_some, if_pos rfl]
    · rw [f_Mod_inputLine, ip, if_neg pn, lt, nk1, a2, Option.bind_some, c2, Option.bind_some]
      show Option.bind (f_Mod_takeAfter n J (nI (m2r 42)) R3) _ = _
      rw [d2, Option.bind_some, if_pos (e6.trans x0), b_Mod_inputLine_81]
  have fr := RN_t (RN_t f2 c7) d7
  have fc := CN_t (CN_t f1 c6) d6
  have e6 : R4 MO 6 = x := by rw [fr.2 6 (by decide), up_ne (Or.inr (by decide))]; exact i6
  have q5 : C4 (m + 13) (5 : Int32).toNatClampNeg = nI p := by rw [fc.1 _ (by omega) (by omega)]; exact e5
  have r5 : R4 MO 5 = nI (p + 1) := by rw [fr.2 5 (by decide), up_self]
  have r4 : R4 MO 4 = R MO 4 := by rw [fr.2 4 (by decide), up_ne (Or.inr (by decide))]
  have qm : x = 1 → QM tl m C4 R4 := fun y => QM_c (i8 y) (fun i _ => fc.1 _ (by omega) (by omega)) (fun b z1 _ => by rw [fr.1 b (by show b ≠ 102; omega), fu (by show b ≠ 102; omega)]) (fun j hj => by
    have s : ∀ j, j ∈ [34, 42, 43, 44, 45, 48, 50, 51, 52, 53, 54, 55, 58, 59, 63] → j ∉ [7, 10, 11, 12, 13, 14] ∧ j ≠ 5 := by decide
    obtain ⟨w1, w2⟩ := s j hj
    rw [fr.2 j w1, up_ne (Or.inr w2)])
  have ff : (5 : Int32).toNatClampNeg = 5 := rfl
  have inp : inb (nI p) 16 := nki (by omega) (by decide)
  have np : (nI p).toNatClampNeg = p := nkc (by omega)
  have fC : f_Img_readInput m C = some (1, up (up (up C4 (m + 8) p (R3 MO 7)) (m + 9) p (C4 15 3)) (m + 13) 5 (nI (p + 1))) := by
    rw [ec]
    show Option.bind (f_Img_readOptional (nI 42) C3) _ = _
    rw [d1, Option.bind_some, if_neg (show ¬ (1 : Int32) = 0 by decide), c5]
    simp only [f_Mch_addInput, q5, if_neg p0, if_neg pg, chk_i inp, lt, Option.bind_some, b_Mch_addInput_40, np, nk1]
    rfl
  have k16 : ∀ b, b < 16 → up (up (up C4 (m + 8) p (R3 MO 7)) (m + 9) p (C4 15 3)) (m + 13) 5 (nI (p + 1)) b = C4 b := fun b hb => by rw [fu (by omega), fu (by omega), fu (by omega)]
  have li0 : ∀ R' : IM, (∀ j, j ∈ [2, 4, 5, 6, 10, 11, 12, 13, 14] → R' MO j = R4 MO j) → R' A_signs = R4 A_signs → (x = 1 → QM tl m (up (up (up C4 (m + 8) p (R3 MO 7)) (m + 9) p (C4 15 3)) (m + 13) 5 (nI (p + 1))) R') → LI x tl m T N K k4 (up (up (up C4 (m + 8) p (R3 MO 7)) (m + 9) p (C4 15 3)) (m + 13) 5 (nI (p + 1))) R' := fun R' w1 w2 w3 => by
    have s : ∀ j, j ∈ [2, 10, 11, 12, 13] → j ∈ [2, 4, 5, 6, 10, 11, 12, 13, 14] := by decide
    refine ⟨⟨RA_c (k16 1 (by decide)) (k16 2 (by decide)) (k16 3 (by decide)) (k16 4 (by decide)) (k16 5 (by decide)) d4.1, RB_c d4.2.1 (fun j hj => w1 j (s j hj)) w2, by rw [k16 15 (by decide)]; exact d4.2.2.1, by rw [w1 14 (by decide)]; exact d4.2.2.2⟩, by rw [w1 6 (by decide)]; exact e6, by rw [k16 15 (by decide), fc.2, w1 4 (by decide), r4]; exact i2, by rw [w1 4 (by decide), r4]; exact i4, by rw [up_self, w1 5 (by decide), r5], ⟨p + 1, by omega, by rw [w1 5 (by decide), r5]⟩, w3⟩
  rcases hx with hx | hx
  · refine Or.inl ⟨k4, _, R4, fC, ?_, by omega, li0 R4 (fun _ _ => rfl) rfl (fun y => by rw [hx] at y; exact absurd y (by decide)), rx0 fr⟩
    rw [f_Mod_inputLine, ip, if_neg pn, lt, nk1, a2, Option.bind_some, c2, Option.bind_some]
    show Option.bind (f_Mod_takeAfter n J (nI (m2r 42)) R3) _ = _
    rw [d2, Option.bind_some, if_pos (e6.trans hx), b_Mod_inputLine_81]
  · have e45 : R4 MO 45 = nI p := by
      have := (qm hx).1.2.1.2.2.2.2.2.2.1
      rw [← this]; exact q5
    refine Or.inl ⟨k4, _, up (up (up R4 A_inputValues p (R3 MO 7)) A_inputTags p (C4 15 3)) MO 45 (nI (p + 1)), fC, ?_, by omega, li0 _ (fun j hj => ?_) (by rw [fu (by decide), fu (by decide), fu (by decide)]) (fun y => QM_inp (by omega) e45 (qm y)), ?_⟩
    · rw [f_Mod_inputLine, ip, if_neg pn, lt, nk1, a2, Option.bind_some, c2, Option.bind_some]
      show Option.bind (f_Mod_takeAfter n J (nI (m2r 42)) R3) _ = _
      rw [d2, Option.bind_some]
      dsimp only
      rw [if_neg (fun y => by rw [e6, hx] at y; exact absurd y (by decide))]
      simp only [e45, chk_i inp, lt, np, b_Mod_inputLine_81, fu (show MO ≠ A_inputValues by decide), fu (show MO ≠ A_inputTags by decide), nk1]
    · obtain ⟨w1, w2, w3, w4⟩ := mem9 j hj
      rw [up_ne (Or.inr w4), fu (by decide), fu (by decide)]
    · rw [hx] at rx0 ⊢
      exact RX_t (rx0 fr) (RX_t (RX_a (by decide)) (RX_t (RX_a (by decide)) (RX_u1 (by decide))))
def cCl (m : Nat) (C : IM) : Option (Int32 × IM) := Option.bind (f_Rdr_advance C) fun v1 => Option.bind (f_Img_readAny v1) fun v3 => if (v3.1 : Int32) = 0 then (some (0, v3.2)) else some (1, up v3.2 m 0 (v3.2 15 3))
def rCl (n : Nat) (J : JM) (R : IM) : Option IM := Option.bind (f_Mod_step n J R) fun v15 => Option.bind (f_Mod_takeAny n J v15) fun v17 => if (v17 MO 6 : Int32) = 0 then some v17 else some (up v17 MO 34 (v17 MO 7))
theorem L_cl {x : Int32} {tl : Int32 → Nat → Prop} {m : Nat} {T : Nat → Int32} {N K k n : Nat} {J : JM} {C R : IM} (hx : x = 0 ∨ x = 1) (hm : isMch m) (hJ : JOK J) (hn : 1000 ≤ n) (vt : VT T N) (h : LI x tl m T N K k C R) (z : tC T N k = 35) : OUi x tl m T N K k R (cCl m C) (rCl n J R) := by
  have hm16 := m16 hm
  obtain ⟨C1, R1, a1, a2, -, a3, a4, a5, a6⟩ := adS (n := n) hJ hn vt h.1 (by omega) (by omega)
  obtain ⟨f1, f2⟩ := adS_f a4 a5 a6
  rcases tnA (n := n) hJ hn vt a3 with ⟨k3, C3, R3, c1, c2, c3, c4, c5, c6, c7⟩ | ⟨C3, R3, c1, c2, c3, c6, c7⟩
  · have li := LI_n hm h c4 (CN_t f1 c6) (RN_t f2 c7)
    have fC : cCl m C = some (1, up C3 m 0 (R3 MO 7)) := by
      rw [cCl, a1, Option.bind_some, c1, Option.bind_some, if_neg (show ¬ (1 : Int32) = 0 by decide)]
      dsimp only
      rw [c5]
    have er : rCl n J R = if (R3 MO 6 : Int32) = 0 then some R3 else some (up R3 MO 34 (R3 MO 7)) := by
      rw [rCl, a2, Option.bind_some, c2, Option.bind_some]
    have k16 : ∀ b, b < 16 → up C3 m 0 (R3 MO 7) b = C3 b := fun b hb => fu (by omega)
    rcases hx with hx | hx
    · rw [if_pos (li.2.1.trans hx)] at er
      exact Or.inl ⟨k3, _, _, fC, er, by omega, LI_w li k16 (by rw [fu (by omega)]) (fun _ _ => rfl) rfl (fun y => by rw [hx] at y; exact absurd y (by decide)), RX_n (RN_t f2 c7)⟩
    · rw [if_neg (fun y => by rw [li.2.1, hx] at y; exact absurd y (by decide))] at er
      refine Or.inl ⟨k3, _, _, fC, er, by omega, LI_w li k16 (by rw [fu (by omega)]) (fun j hj => up_ne (Or.inr (mem9 j hj).1)) (fu (by decide)) (fun y => QM_cl (li.2.2.2.2.2.2 y)), ?_⟩
      rw [hx]
      exact RX_t (RX_n (RN_t f2 c7)) (RX_u1 (by decide))
  · have e6 : R3 MO 6 = x := by rw [(RN_t f2 c7).2 6 (by decide)]; exact h.2.1
    refine Or.inr ⟨0, C3, ?_, Or.inl rfl, fun x0 => ⟨R3, ?_, c3, RX_n (RN_t f2 c7)⟩⟩
    · rw [cCl, a1, Option.bind_some, c1, Option.bind_some, if_pos rfl]
    · rw [rCl, a2, Option.bind_some, c2, Option.bind_some, if_pos (e6.trans x0)]
