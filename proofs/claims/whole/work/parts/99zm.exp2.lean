/-! policy: a choice, and all expressions -/
theorem RZ_pa {P c q : Nat} {v : Int32} {R : IM} : RZ P c q [] 0 R (up R A_pileAt P v) := by
  refine ⟨trivial, fun j _ => ⟨?_, ?_⟩, ?_, fun j hj => ⟨?_, ?_⟩, RFq_p (Or.inr rfl)⟩
  · rw [fu (by decide)]
  · rw [fu (by decide)]
  · rw [fu (by decide), Int32.or_zero]
  · rw [fu (by decide)]
  · rw [up_ne (Or.inr (by omega))]
/-- the colon of a choice -/
theorem colR {T : Nat → Int32} {N n k k1 k2 o p c q : Nat} {J : JM} {ds es : List CIt} {m m1 w : Int32} {R R3 : IM} (hJ : JOK J) (hn : 1000 ≤ n) (vt : VT T N) (hk : k2 ≤ 900) (hp : p ≤ k) (hc : c ≤ k) (hk1 : k + ds.length ≤ k1) (hk2 : k1 + 1 + es.length ≤ k2) (e1 : R3 A_pile p = 63) (e2 : R3 A_pileAt p = nI (c + ds.length)) (rz : RZ p c q (ds ++ [(303, w)]) m R R3) (eo : EO T N n J (k1 + 1) k2 (o + 1) (p + 1) (c + ds.length + 1) q es m1 R3) (ht : tC T N k2 = 186) : ∃ (s : Nat) (R' : IM), s + k1 ≤ k2 ∧ (∀ f, l_Mod_expression_12 n J (f + s) 1 R3 = l_Mod_expression_12 n J f 1 R') ∧ RQ T N (k2 + 1) (o + 1) (p + 1) (c + ds.length + 1 + es.length + 1) q R' ∧ R' A_pile p = 58 ∧ R' A_pileAt p = nI (c + ds.length + 1 + es.length) ∧ RZ p c q ((ds ++ (303, nI (es.length + 2)) :: es) ++ [(302, -nI (c + ds.length + 1 + es.length))]) (m ||| m1) R R' := by
  obtain ⟨s, R', R2, a1, a2, a3, a4, a5, a6, a7⟩ := eoG (x := 63) hn vt hk (by omega) eo (by rw [ht]; decide) (by rw [ht]; decide) (by rw [ht]; decide) (tp_s e1) (by decide)
  have e58 : R' MO 10 - 400 = 58 := (sub4 (s := 58) vt a3 (by decide)).mpr ht
  have f1 : R2 A_pileAt p = nI (c + ds.length) := by rw [(a7.2.2.2.1 p (by omega)).2]; exact e2
  obtain ⟨c2, hc2⟩ : ∃ c2, c2 = c + ds.length + 1 + es.length := ⟨_, rfl⟩
  rw [← hc2] at a6 ⊢
  -- the four stores
  obtain ⟨D1, hD1⟩ : ∃ D, D = up R2 A_codeValue (c + ds.length) (nI (c2 + 1)) := ⟨_, rfl⟩
  obtain ⟨D2, hD2⟩ : ∃ D, D = up D1 A_pile p 58 := ⟨_, rfl⟩
  obtain ⟨D3, hD3⟩ : ∃ D, D = up D2 A_pileAt p (nI c2) := ⟨_, rfl⟩
  have q1 : RQ T N k2 (o + 1) (p + 1) c2 q D1 := by rw [hD1]; exact RQ_a (by decide) (by decide) a6
  have q2 : RQ T N k2 (o + 1) (p + 1) c2 q D2 := by rw [hD2]; exact RQ_a (by decide) (by decide) q1
  have q3 : RQ T N k2 (o + 1) (p + 1) c2 q D3 := by rw [hD3]; exact RQ_a (by decide) (by decide) q2
  have z0 : RZ p c q (ds ++ (303, w) :: es) (m ||| m1) R R2 := by
    have := RZ_t (Nat.le_succ p) rz (by rw [List.length_append]; exact a7)
    rw [List.append_assoc] at this
    exact this
  have z1 : RZ p c q (ds ++ (303, nI (es.length + 2)) :: es) (m ||| m1) R D1 := by
    rw [hD1]
    refine RZ_set (Or.inr rfl) ?_ (by omega) z0
    rw [nad, hc2]
    exact congrArg nI (by omega)
  have l1 : (ds ++ (303, nI (es.length + 2)) :: es).length = ds.length + 1 + es.length := by rw [List.length_append, List.length_cons]; omega
  have z2 : RZ p c q (ds ++ (303, nI (es.length + 2)) :: es) (m ||| m1) R D3 := by
    exact RZ_r (RZ_r z1 (show RZ p (c + (ds ++ (303, nI (es.length + 2)) :: es).length) q [] 0 D1 D2 from by rw [hD2]; exact RZ_pl)) (by rw [hD3]; exact RZ_pa)
  obtain ⟨R4, d1, d2, d3, -⟩ := rEm (d := (302, -nI c2)) (x := 302) (v := 0) (by omega) q3 rfl (Int32.add_right_neg _)
  obtain ⟨R5, g1, -, g2, g3⟩ := rStp (n := n) hJ hn vt d2
  have ip : inb (nI p) 1000 := nki (by omega) (by decide)
  refine ⟨s + 1, R5, by omega, fun f => ?_, g2, ?_, ?_, ?_⟩
  · rw [show f + (s + 1) = f + 1 + s by omega, a2]
    refine lx3 a4 ?_
    rw [a5, e58, opT, if_pos rfl, if_pos rfl, a6.2.2.2.1, ps1, chk_i ip, nkc (by omega), f1, chk_i (show inb (nI (c + ds.length)) 2000 from nki (by omega) (by decide)), nkc (by omega), a6.2.2.2.2.1, nk1, ← hD1, lt, q1.2.2.2.1, ps1, chk_i ip, nkc (by omega), ← hD2, lt, q2.2.2.2.1, ps1, chk_i ip, nkc (by omega), q2.2.2.2.2.1, ← hD3, lt, d1, Option.bind_some, g1, Option.bind_some]
  · rw [(g3.2.2.2.1 p (by omega)).1, (d3.2.2.2.1 p (by omega)).1, hD3, fu (by decide), hD2, up_self]
  · rw [(g3.2.2.2.1 p (by omega)).2, (d3.2.2.2.1 p (by omega)).2, hD3, up_self]
  · have e : c + (ds ++ (303, nI (es.length + 2)) :: es).length = c2 := by rw [l1]; omega
    have := RZ_t (Nat.le_succ p) z2 (by rw [e]; exact d3)
    rw [Int32.or_zero] at this
    refine RZ_r this ?_
    rw [List.length_append, ← Nat.add_assoc, e]
    exact RZ_p (by omega) g3
/-- a choice's end: its colon goes, and its jump finds its place -/
theorem lE_1 {T : Nat → Int32} {N n k o P c c0 q : Nat} {ds es : List CIt} {m w : Int32} {R0 R : IM} (h : RQ T N k (o + 1) (P + 1) c q R) (e : R A_pile P = 58) (ea : R A_pileAt P = nI (c0 + ds.length)) (hP : P + 1 < 1000) (hc : c < 1000) (hcc : c = c0 + ds.length + 1 + es.length) (rz : RZ P c0 q (ds ++ (302, w) :: es) m R0 R) : ∃ R', (∀ f, l_Mod_endExpression_4 n (f + 1) R = l_Mod_endExpression_4 n f R') ∧ RQ T N k o P c q R' ∧ RZ P c0 q (ds ++ (302, nI (es.length + 1)) :: es) m R0 R' := by
  obtain ⟨D, hD⟩ : ∃ D, D = up (up R MO 29 (nI P)) MO 28 (nI o) := ⟨_, rfl⟩
  have qD : RQ T N k o P c q D := by rw [hD]; exact RQ_28 (RQ_29 h)
  have rD : RZ P c q [] 0 R D := by rw [hD]; exact RZ_l (RZ_u (by decide)) (RZ_u (by decide))
  have h29 : R MO 29 = nI (P + 1) := h.2.2.2.1
  have tp : f_Mod_topOf R = some 58 := by rw [top_f h29 (by omega), tp_s e]
  have d1 : (up R MO 29 (nI P)) MO 28 = nI (o + 1) := by rw [up_ne (Or.inr (by decide))]; exact h.2.2.1
  have d2 : D A_pileAt P = nI (c0 + ds.length) := by rw [(by rw [hD, fu (by decide), fu (by decide)] : D A_pileAt = R A_pileAt)]; exact ea
  have l1 : (ds ++ (302, w) :: es).length = ds.length + 1 + es.length := by rw [List.length_append, List.length_cons]; omega
  refine ⟨up D A_codeValue (c0 + ds.length) (nI c), fun f => ?_, RQ_a (by decide) (by decide) qD, ?_⟩
  · rw [l_Mod_endExpression_4, tp, Option.bind_some, if_pos rfl, h29, ps1, lt, d1, ps1, lt, ← hD, qD.2.2.2.1, chk_i (show inb (nI P) 1000 from nki (by omega) (by decide)), nkc (by omega), d2, chk_i (show inb (nI (c0 + ds.length)) 2000 from nki (by omega) (by decide)), nkc (by omega), qD.2.2.2.2.1, lt]
  · refine RZ_set (Or.inl rfl) ?_ (by omega) (RZ_r rz ?_)
    · rw [nad, hcc]
      exact congrArg nI (by omega)
    · rw [l1, show c0 + (ds.length + 1 + es.length) = c by omega]; exact rD
theorem spX {T : Nat → Int32} {N K n pt o : Nat} {J : JM} {E Tm : RF} (hJ : JOK J) (hn : 1000 ≤ n) (vt : VT T N) (hp : isPol pt) (ho : o ≤ 10) (ih : o < 10 → SpE T N K n pt J (o + 1) E) (iP : ∀ (k L : Nat) (C : IM), RA T N K k C → C pt 0 = nI L → L ≤ k → OkP T N K n pt J o k L C (f_Prd_readParts n pt E Tm (nI o) C) ∨ FaE T N K n pt J o k C (f_Prd_readParts n pt E Tm (nI o) C)) : SpE T N K n pt J o (f_Prd_readExpression n pt E Tm) := by
  intro k L C ra hL hLk
  have p8' := p8 hp
  rcases iP k L C ra hL hLk with ⟨C1, k1, ds, m, b1, b2, b3, b4, b5, b6, b7, b8, b9⟩ | ⟨C1, k1, b1, b2, b3, b4, b5⟩
  rotate_left
  · refine Or.inr ⟨C1, k1, ?_, b2, b3, b4, b5⟩
    rw [f_Prd_readExpression, b1, Option.bind_some, if_pos rfl]
  obtain ⟨kK, K9, hK⟩ := RA_K b4
  by_cases z : tC T N k1 = 191
  rotate_left
  · have nz : ¬ ((1 : Int32), C1).2 1 1 = 191 := fun y => z (by
      rw [show ((1 : Int32), C1).2 1 1 = nI (tC T N k1) from b4.2.2.2.2.1] at y
      exact nij (b := 191) (by have := tC_b (k := k1) vt; omega) (by decide) y)
    refine Or.inl ⟨C1, k1, ds, m, ?_, b2, b3, b4, b5, b6, b7, b8, z, fun J hJ R p c q hr nS nC => ?_⟩
    · rw [f_Prd_readExpression, b1, Option.bind_some, if_neg one0, if_neg nz]
    · obtain ⟨s, R', R1, a1, a2, a3, a4, a5, a6, a7, a8⟩ := b9 J hJ R p c q hr nS nC
      exact ⟨s, 0, R', R1, R1, a1, by omega, a2, a3, a4, a5, fun f => rfl, a6, a7, a8⟩
  have z11 : ((1 : Int32), C1).2 1 1 = 191 := c11 b4 z
  by_cases h10 : o = 10
  · subst h10
    refine Or.inr ⟨C1, k1, ?_, by omega, b4, b5.2.2.2.2, fun J hJ R p c q hr nS nC => ?_⟩
    · rw [f_Prd_readExpression, b1, Option.bind_some, if_neg one0, if_pos z11, if_neg (show ¬ nI 10 < 10 by decide)]
    · obtain ⟨s, R', R1, a1, a2, a3, a4, a5, a6, a7, a8⟩ := b9 J hJ R p c q hr nS nC
      have h5' : c ≤ k := hr.2.2.2.2.1
      have ic : inb (nI (c + ds.length)) 2000 := nki (by omega) (by decide)
      have h15 : (up R1 MO 14 (nI (tP T N k1))) MO 15 = nI (c + ds.length) := by rw [up_ne (Or.inr (by decide))]; exact a6.2.2.2.2.1
      obtain ⟨D, hD⟩ : ∃ D, D = up (up (up (up R1 MO 14 (nI (tP T N k1))) A_code0 (c + ds.length) 303) A_codeValue (c + ds.length) 0) MO 15 (nI (c + ds.length + 1)) := ⟨_, rfl⟩
      have em : f_Mod_emit 303 0 (up R1 MO 14 (nI (tP T N k1))) = some D := by
        rw [hD]
        simp only [f_Mod_emit, h15, chk_i ic, lt, nkc (show c + ds.length < 5000 by omega), fu (show MO ≠ A_code0 by decide), fu (show MO ≠ A_codeValue by decide), nk1]
      have d14 : D MO 14 = nI (tP T N k1) := by rw [hD, up_ne (Or.inr (by decide)), fu (by decide), fu (by decide), up_self]
      have op : f_Mod_operator n J R' = some (1, D) := by
        rw [op63 vt a3 z, a5, Option.bind_some, pshF a6, Option.bind_some, em, Option.bind_some, stp0 (by rw [d14]; exact (tP_b vt).1), Option.bind_some]
      refine ⟨s + 2, D, by omega, fun f => ?_, d14, ?_⟩
      · rw [show f + (s + 2) = f + 1 + 1 + s by omega, a2, lx3 a4 op, lxF (by rw [d14]; exact (tP_b vt).1)]
      · rw [hD]
        exact RFq_t a7.2.2.2.2 (RFq_t (RFq_u (by decide)) (RFq_t (RFq_c (Or.inl rfl) (by omega)) (RFq_t (RFq_c (Or.inr rfl) (by omega)) (RFq_u (by decide)))))
  have o10 : o < 10 := by omega
  have kl := kltK hK kK (by omega) (by omega)
  obtain ⟨C2, a1, a2, a3⟩ := adC vt b4 kl
  have ce2 : CE pt L ds m C C2 := CE_1 p8'.1 b5 a3
  have ap3 := apC2 (pt := pt) (L := L + ds.length) (C := C2) (x1 := 191) (x2 := 0) (by omega) ce2.1
  obtain ⟨C3, hC3⟩ : ∃ C3, C3 = up (up (up C2 (pt + 1) (L + ds.length) 191) (pt + 2) (L + ds.length) 0) pt 0 (nI (L + ds.length + 1)) := ⟨_, rfl⟩
  rw [← hC3] at ap3
  have ce3 : CE pt L (ds ++ [(303, -nI (L + ds.length))]) m C C3 := by
    rw [hC3]
    exact CE_s ce2 (CE_ap (d := (303, -nI (L + ds.length))) p8'.1 rfl (Int32.add_right_neg _))
  have ra3 : RA T N K (k1 + 1) C3 := by rw [hC3]; exact RA_ap p8'.1 a2
  have l3 : L + (ds ++ [((303 : Int32), -nI (L + ds.length))]).length = L + ds.length + 1 := by rw [List.length_append]; rfl
  have e3 : C3 pt 0 = nI (L + ds.length + 1) := by rw [hC3]; exact up_self
  have ec : f_Prd_readExpression n pt E Tm (nI o) C = Option.bind (E (nI (o + 1)) C3) fun v10 => if (v10.1 : Int32) = 0 then (b_Prd_readExpression_75 n pt E Tm v10.2) else (Option.bind (f_Rdr_take 186 v10.2) fun v13 => if (v13.1 : Int32) = 0 then (b_Prd_readExpression_75 n pt E Tm v13.2) else (Option.bind (f_Pol_append pt 186 0 v13.2) fun v16 => Option.bind (f_Pol_landHere pt (nI (L + ds.length)) v16.2) fun v18 => Option.bind (E (nI (o + 1)) v18) fun v20 => if (v20.1 : Int32) = 0 then (some (0, v20.2)) else (Option.bind (f_Pol_landHere pt v16.1 v20.2) fun v23 => some (1, v23)))) := by
    rw [f_Prd_readExpression, b1, Option.bind_some, if_neg one0, if_pos z11, if_pos (lt10 o10), show f_Rdr_advance ((1 : Int32), C1).2 = some C2 from a1, Option.bind_some, ap3, Option.bind_some, nk1]
  have v63 : ¬ bU (63 : Int32) ∧ ¬ bS (63 : Int32) ∧ ¬ bC (63 : Int32) := by decide
  have v58 : ¬ bU (58 : Int32) ∧ ¬ bS (58 : Int32) ∧ ¬ bC (58 : Int32) := by decide
  -- the reference, up to what stands behind the question mark
  have ref : ∀ (J : JM), JOK J → ∀ (R : IM) (p c q : Nat), HR T N k o [] p c q R → ¬ bS (tpR R p) → ¬ bC (tpR R p) → ∃ (s : Nat) (R' : IM), s + k ≤ k1 + 1 ∧ (∀ f, l_Mod_expression_12 n J (f + s) 1 R = l_Mod_expression_12 n J f 1 R') ∧ HR T N (k1 + 1) (o + 1) [] (p + 1) (c + ds.length + 1) q R' ∧ R' A_pile p = 63 ∧ R' A_pileAt p = nI (c + ds.length) ∧ RZ p c q (ds ++ [(303, -nI (c + ds.length))]) m R R' := fun J hJ R p c q hr nS nC => by
    obtain ⟨s, R', g1, g2, g3, g4, g5, g6⟩ := quR hJ hn vt (by omega) o10 hr b2 (b9 J hJ R p c q hr nS nC) z
    have h5' : c ≤ k := hr.2.2.2.2.1
    have h6' : p ≤ k := hr.2.2.2.2.2.1
    exact ⟨s, R', g1, g2, HR_0 g3 (by rw [tp_s g4]; exact v63.1) (by omega) (by omega) hr.2.2.2.2.2.2, g4, g5, g6⟩
  rcases ih o10 (k1 + 1) (L + ds.length + 1) C3 ra3 e3 (by omega) with ⟨C4, k2, ds1, m1, d1, d2, d3, d4, d5, d6, d7, d8, d9, d10⟩ | ⟨C4, k2, d1, d2, d3, d4, d5⟩
  rotate_left
  · refine Or.inr ⟨C4, k2, ?_, by omega, d3, CFp_t ce3.2.2.2.2 d4, fun J hJ R p c q hr nS nC => ?_⟩
    · rw [ec, d1, Option.bind_some, if_pos rfl, b_Prd_readExpression_75]
    · obtain ⟨s, R', g1, g2, g3, g4, g5, g6⟩ := ref J hJ R p c q hr nS nC
      obtain ⟨s2, R2, i1, i2, i3, i4⟩ := d5 J hJ R' _ _ q g3 (by rw [tp_s g4]; exact v63.2.1) (by rw [tp_s g4]; exact v63.2.2)
      exact ⟨s2 + s, R2, by omega, fun f => by rw [← Nat.add_assoc, g2, i2], i3, RFq_t g6.2.2.2.2 i4⟩
  obtain ⟨kK2, -, -⟩ := RA_K d4
  have eoA : ∀ (J : JM), JOK J → ∀ (R' : IM) (p c q : Nat), HR T N (k1 + 1) (o + 1) [] (p + 1) (c + ds.length + 1) q R' → R' A_pile p = 63 → EO T N n J (k1 + 1) k2 (o + 1) (p + 1) (c + ds.length + 1) q ds1 m1 R' := fun J hJ R' p c q g3 g4 => d10 J hJ R' _ _ q g3 (by rw [tp_s g4]; exact v63.2.1) (by rw [tp_s g4]; exact v63.2.2)
  by_cases y : tC T N k2 = 186
  rotate_left
  · refine Or.inr ⟨C4, k2, ?_, by omega, d4, CFp_t ce3.2.2.2.2 d5.2.2.2.2, fun J hJ R p c q hr nS nC => ?_⟩
    · rw [ec, d1, Option.bind_some, if_neg one0, show f_Rdr_take 186 C4 = some (0, C4) from tk_0 (w := 186) vt d4 (by decide) y, Option.bind_some, if_pos rfl, b_Prd_readExpression_75]
    · obtain ⟨s, R', g1, g2, g3, g4, g5, g6⟩ := ref J hJ R p c q hr nS nC
      have h6' : p ≤ k := hr.2.2.2.2.2.1
      obtain ⟨s2, R2, i1, i2, i3, i4⟩ := eoF hn vt (by omega) (by omega) (eoA J hJ R' p c q g3 g4) d8 d9 (tp_s g4) (by decide) (fun w => y w.1) (fun w => absurd w.2 (by decide)) (fun _ w => absurd w (by decide)) (fun w => by omega)
      exact ⟨s2 + s, R2, by omega, fun f => by rw [← Nat.add_assoc, g2, i2], i3, RFq_t g6.2.2.2.2 i4⟩
  have kl2 := kltK hK kK2 (by omega) (by omega)
  obtain ⟨C5, f1, f2, f3⟩ := tk_1 (w := 186) vt d4 y (by decide) (by decide)
  obtain ⟨Lw, hLw⟩ : ∃ Lw, Lw = L + ds.length + 1 + ds1.length := ⟨_, rfl⟩
  have ce4 : CE pt L (ds ++ (303, -nI (L + ds.length)) :: ds1) (m ||| m1) C C5 := by
    have := CE_1 p8'.1 (CE_t ce3 (by rw [l3]; exact d5)) f3
    rw [List.append_assoc] at this
    exact this
  have l4 : L + (ds ++ (303, -nI (L + ds.length)) :: ds1).length = Lw := by rw [List.length_append, List.length_cons]; omega
  have e5 : C5 pt 0 = nI Lw := by rw [← l4]; exact ce4.1
  have ap6 := apC2 (pt := pt) (L := Lw) (C := C5) (x1 := 186) (x2 := 0) (by omega) e5
  obtain ⟨C6, hC6⟩ : ∃ C6, C6 = up (up (up C5 (pt + 1) Lw 186) (pt + 2) Lw 0) pt 0 (nI (Lw + 1)) := ⟨_, rfl⟩
  rw [← hC6] at ap6
  have e6 : C6 pt 0 = nI (Lw + 1) := by rw [hC6]; exact up_self
  have ce6 : CE pt L (ds ++ (303, -nI (L + ds.length)) :: (ds1 ++ [(302, -nI Lw)])) (m ||| m1) C C6 := by
    rw [hC6]
    have := CE_s ce4 (by rw [l4]; exact CE_ap (d := (302, -nI Lw)) p8'.1 rfl (Int32.add_right_neg _))
    rw [List.append_assoc] at this
    exact this
  have lh7 := lhC (pt := pt) (j := L + ds.length) (by omega) e6
  obtain ⟨C7, hC7⟩ : ∃ C7, C7 = up C6 (pt + 2) (L + ds.length) (nI (Lw + 1)) := ⟨_, rfl⟩
  rw [← hC7] at lh7
  have ce7 : CE pt L (ds ++ (303, nI (ds1.length + 2)) :: (ds1 ++ [(302, -nI Lw)])) (m ||| m1) C C7 := by
    rw [hC7]
    refine CE_set (Or.inr rfl) ?_ ce6 p8'.1
    rw [nad]
    exact congrArg nI (by omega)
  have ra7 : RA T N K (k2 + 1) C7 := by rw [hC7, hC6]; exact RA_u (RA_ap p8'.1 f2) (by omega)
  have l7 : L + (ds ++ (303, nI (ds1.length + 2)) :: (ds1 ++ [((302 : Int32), -nI Lw)])).length = Lw + 1 := by
    rw [List.length_append, List.length_cons, List.length_append]
    simp only [List.length_cons, List.length_nil]
    omega
  have e7 : C7 pt 0 = nI (Lw + 1) := by rw [← l7]; exact ce7.1
  have ec2 : f_Prd_readExpression n pt E Tm (nI o) C = Option.bind (E (nI (o + 1)) C7) fun v20 => if (v20.1 : Int32) = 0 then (some (0, v20.2)) else (Option.bind (f_Pol_landHere pt (nI Lw) v20.2) fun v23 => some (1, v23)) := by
    rw [ec, d1, Option.bind_some, if_neg one0, show f_Rdr_take 186 C4 = some (1, C5) from f1, Option.bind_some, if_neg one0, ap6, Option.bind_some, lh7, Option.bind_some]
  have refB : ∀ (J : JM), JOK J → ∀ (R : IM) (p c q : Nat), HR T N k o [] p c q R → ¬ bS (tpR R p) → ¬ bC (tpR R p) → ∃ (s : Nat) (R' : IM), s + k ≤ k2 + 1 ∧ (∀ f, l_Mod_expression_12 n J (f + s) 1 R = l_Mod_expression_12 n J f 1 R') ∧ HR T N (k2 + 1) (o + 1) [] (p + 1) (c + ds.length + 1 + ds1.length + 1) q R' ∧ R' A_pile p = 58 ∧ R' A_pileAt p = nI (c + ds.length + 1 + ds1.length) ∧ RZ p c q ((ds ++ (303, nI (ds1.length + 2)) :: ds1) ++ [(302, -nI (c + ds.length + 1 + ds1.length))]) (m ||| m1) R R' := fun J hJ R p c q hr nS nC => by
    obtain ⟨s, R', g1, g2, g3, g4, g5, g6⟩ := ref J hJ R p c q hr nS nC
    have h5' : c ≤ k := hr.2.2.2.2.1
    have h6' : p ≤ k := hr.2.2.2.2.2.1
    obtain ⟨s2, R2, i1, i2, i3, i4, i5, i6⟩ := colR hJ hn vt (by omega) h6' h5' b2 d2 g4 g5 g6 (eoA J hJ R' p c q g3 g4) y
    exact ⟨s2 + s, R2, by omega, fun f => by rw [← Nat.add_assoc, g2, i2], HR_0 i3 (by rw [tp_s i4]; exact v58.1) (by omega) (by omega) hr.2.2.2.2.2.2, i4, i5, i6⟩
  rcases ih o10 (k2 + 1) (Lw + 1) C7 ra7 e7 (by omega) with ⟨C8, k3, ds2, m2, j1, j2, j3, j4, j5, j6, j7, j8, j9, j10⟩ | ⟨C8, k3, j1, j2, j3, j4, j5⟩
  rotate_left
  · refine Or.inr ⟨C8, k3, ?_, by omega, j3, CFp_t ce7.2.2.2.2 j4, fun J hJ R p c q hr nS nC => ?_⟩
    · rw [ec2, j1, Option.bind_some, if_pos rfl]
    · obtain ⟨s, R', g1, g2, g3, g4, g5, g6⟩ := refB J hJ R p c q hr nS nC
      obtain ⟨s2, R2, i1, i2, i3, i4⟩ := j5 J hJ R' _ _ q g3 (by rw [tp_s g4]; exact v58.2.1) (by rw [tp_s g4]; exact v58.2.2)
      exact ⟨s2 + s, R2, by omega, fun f => by rw [← Nat.add_assoc, g2, i2], i3, RFq_t g6.2.2.2.2 i4⟩
  obtain ⟨kK3, -, -⟩ := RA_K j4
  have ce8 : CE pt L ((ds ++ (303, nI (ds1.length + 2)) :: ds1) ++ (302, -nI Lw) :: ds2) (m ||| m1 ||| m2) C C8 := by
    have := CE_t ce7 (by rw [l7]; exact j5)
    rw [show (ds ++ (303, nI (ds1.length + 2)) :: (ds1 ++ [((302 : Int32), -nI Lw)])) ++ ds2 = (ds ++ (303, nI (ds1.length + 2)) :: ds1) ++ (302, -nI Lw) :: ds2 by simp] at this
    exact this
  have lA : (ds ++ (303, nI (ds1.length + 2)) :: ds1).length = ds.length + 1 + ds1.length := by rw [List.length_append, List.length_cons]; omega
  have l8 : L + ((ds ++ (303, nI (ds1.length + 2)) :: ds1) ++ (302, -nI Lw) :: ds2).length = Lw + 1 + ds2.length := by rw [List.length_append, lA, List.length_cons]; omega
  have e8 : C8 pt 0 = nI (Lw + 1 + ds2.length) := by rw [← l8]; exact ce8.1
  have lh9 := lhC (pt := pt) (j := Lw) (by omega) e8
  have ce9 : CE pt L ((ds ++ (303, nI (ds1.length + 2)) :: ds1) ++ (302, nI (ds2.length + 1)) :: ds2) (m ||| m1 ||| m2) C (up C8 (pt + 2) Lw (nI (Lw + 1 + ds2.length))) := by
    have := CE_set (w' := nI (ds2.length + 1)) (v := nI (Lw + 1 + ds2.length)) (Or.inl rfl) (by rw [nad, lA]; exact congrArg nI (by omega)) ce8 p8'.1
    rw [lA, show L + (ds.length + 1 + ds1.length) = Lw by omega] at this
    exact this
  refine Or.inl ⟨_, k3, (ds ++ (303, nI (ds1.length + 2)) :: ds1) ++ (302, nI (ds2.length + 1)) :: ds2, m ||| m1 ||| m2, ?_, ?_, by omega, RA_u j4 (by omega), ce9, ?_, mB_o (mB_o b7 d7) j7, j8, j9, fun J hJ R p c q hr nS nC => ?_⟩
  · rw [ec2, j1, Option.bind_some, if_neg one0, lh9, Option.bind_some]
  · rw [List.length_append, lA, List.length_cons]; omega
  · rw [List.append_assoc]
    refine HT_a (HT_m (fun _ _ w => tb_l (tb_l w)) b6) ?_
    exact HT_c (by omega) (HT_m (fun _ _ w => tb_l (tb_r w)) (HT_M (by omega) d6)) (HT_m (fun _ _ => tb_r) (HT_M (by omega) j6))
  · obtain ⟨s, R', g1, g2, g3, g4, g5, g6⟩ := refB J hJ R p c q hr nS nC
    have h5' : c ≤ k := hr.2.2.2.2.1
    have h6' : p ≤ k := hr.2.2.2.2.2.1
    obtain ⟨s2, w2, R4, R5, R6, i1, i2, i3, i4, i5, i6, i7, i8, i9, i10⟩ := j10 J hJ R' _ _ q g3 (by rw [tp_s g4]; exact v58.2.1) (by rw [tp_s g4]; exact v58.2.2)
    have x1 : R6 A_pile p = 58 := by rw [(i9.2.2.2.1 p (by omega)).1]; exact g4
    have x2 : R6 A_pileAt p = nI (c + (ds ++ (303, nI (ds1.length + 2)) :: ds1).length) := by
      rw [(i9.2.2.2.1 p (by omega)).2, lA, g5]
      exact congrArg nI (by omega)
    have x3 : RZ p c q ((ds ++ (303, nI (ds1.length + 2)) :: ds1) ++ (302, -nI (c + ds.length + 1 + ds1.length)) :: ds2) (m ||| m1 ||| m2) R R6 := by
      have := RZ_t (Nat.le_succ p) g6 (by rw [List.length_append, lA, show c + (ds.length + 1 + ds1.length + [((302 : Int32), -nI (c + ds.length + 1 + ds1.length))].length) = c + ds.length + 1 + ds1.length + 1 by simp only [List.length_cons, List.length_nil]; omega]; exact i9)
      rw [List.append_assoc] at this
      exact this
    obtain ⟨R7, y1, y2, y3⟩ := lE_1 (n := n) i8 x1 x2 (by omega) (by omega) (by rw [lA]; omega) x3
    refine ⟨s2 + s, w2 + 1, R4, R5, R7, by omega, by omega, fun f => by rw [← Nat.add_assoc, g2, i3], i4, i5, i6, fun f => ?_, ?_, y3, fun w => ?_⟩
    · rw [show f + (w2 + 1) = f + 1 + w2 by omega, i7, y1]
    · rw [List.length_append, lA, List.length_cons, show c + (ds.length + 1 + ds1.length + (ds2.length + 1)) = c + ds.length + 1 + ds1.length + 1 + ds2.length by omega]
      exact y2
    · obtain ⟨R8, u1, u2, u3⟩ := i10 w
      exact ⟨R8, u1, u2, RFq_t g6.2.2.2.2 u3⟩
theorem spR {T : Nat → Int32} {N K n pt : Nat} {J : JM} (hJ : JOK J) (hn : 1000 ≤ n) (vt : VT T N) (hp : isPol pt) : ∀ d o, o + d = 10 → SpE T N K n pt J o (recP n pt (d + 1)).1 ∧ SpT T N K n pt J o (recP n pt (d + 1)).2 := by
  have st : ∀ (o : Nat) (E Tm : RF), o ≤ 10 → (o < 10 → SpE T N K n pt J (o + 1) E ∧ SpT T N K n pt J (o + 1) Tm) → SpE T N K n pt J o (f_Prd_readExpression n pt E Tm) ∧ SpT T N K n pt J o (f_Prd_readTerm pt E Tm) := fun o E Tm ho ih => by
    have t := spT (E := E) (Tm := Tm) hJ hn vt hp ho (fun h => (ih h).1) (fun h => (ih h).2)
    exact ⟨spX hJ hn vt hp ho (fun h => (ih h).1) (spP hJ hn vt hp ho (spS hJ hn vt hp ho t)), t⟩
  intro d
  induction d with
  | zero => intro o h; exact st o _ _ (by omega) (fun h' => absurd h' (by omega))
  | succ d ih => intro o h; exact st o _ _ (by omega) (fun _ => ih (o + 1) (by omega))
