/-! policy: brackets, and the terms that have them -/
theorem X1_f {x w : Int32} {es : List CIt} (h : X1 x es w) : ¬ bU x ∧ ¬ bS x ∧ ¬ bC x ∧ x ≠ 58 ∧ x ≠ 63 ∧ x ≠ 760 := by
  rcases h with ⟨rfl, -, -⟩ | ⟨rfl, -, -⟩ | ⟨rfl, -, -⟩ | ⟨rfl, -, -⟩ <;> decide
theorem CE_1 {pt L : Nat} {ds : List CIt} {m : Int32} {A B C : IM} (hp : 8 ≤ pt) (h : CE pt L ds m A B) (g : ∀ b, b ≠ 1 → C b = B b) : CE pt L ds m A C := by
  have := CE_s h (CE_0 hp g h.1)
  rw [List.append_nil] at this
  exact this
theorem RZ_pl {P c q : Nat} {v : Int32} {R : IM} : RZ P c q [] 0 R (up R A_pile P v) := by
  refine ⟨trivial, fun j _ => ⟨?_, ?_⟩, ?_, fun j hj => ⟨?_, ?_⟩, RFq_p (Or.inl rfl)⟩
  · rw [fu (by decide)]
  · rw [fu (by decide)]
  · rw [fu (by decide), Int32.or_zero]
  · rw [up_ne (Or.inr (by omega))]
  · rw [fu (by decide)]
theorem hb_hr {T : Nat → Int32} {N k o p c q : Nat} {us : List Int32} {x : Int32} {R : IM} (h : HB T N k o us p c q x R) (hu : ¬ bU x) : HR T N k (o + 1) [] (p + us.length + 1) c q R ∧ tpR R (p + us.length + 1) = x := by
  obtain ⟨h1, h2, h3, h4, h5, h6, h7, h8⟩ := h
  have t := tp_s h2
  exact ⟨HR_0 h1 (by rw [t]; exact hu) (by omega) (by omega) h8, t⟩
theorem cloR {T : Nat → Int32} {N n k k' o p c q : Nat} {J : JM} {us : List Int32} {ds es : List CIt} {m x w : Int32} {R : IM} (hJ : JOK J) (hn : 1000 ≤ n) (vt : VT T N) (hk : k' ≤ 900) (hds : k + ds.length ≤ k') (hb : HB T N k o us p c q x R) (hx : X1 x es w ∨ X3 x es w) (x58 : x ≠ 58) (eo : EO T N n J k k' (o + 1) (p + us.length + 1) c q ds m R) (ht : tC T N k' = 169) : ∃ (s : Nat) (R' : IM), s + k ≤ k' + 1 ∧ (∀ f, l_Mod_expression_12 n J (f + s) 1 R = l_Mod_expression_12 n J f 2 R') ∧ RQ T N (k' + 1) (o - us.length) p (c + (ds.length + es.length) + us.length) q R' ∧ RZ p c q ((ds ++ es) ++ uI us) (m ||| w) R R' := by
  obtain ⟨h1, h2, h3, h4, h5, h6, h7, h8⟩ := hb
  obtain ⟨s, R', R2, a1, a2, a3, a4, a5, a6, a7⟩ := eoG hn vt hk (by omega) eo (by rw [ht]; decide) (by rw [ht]; decide) (by rw [ht]; decide) (tp_s h2) x58
  have e41 : R' MO 10 - 400 = 41 := (sub4 (s := 41) vt a3 (by decide)).mpr ht
  obtain ⟨R3, b1, b2, b3⟩ := clo (n := n) (us := us) hJ hn vt a6 (PU_c us (fun j hj => (a7.2.2.2.1 j (by omega)).1) h3) h4 (by rw [tp_RZ a7 (by omega)]; exact h5) (by omega) (by omega) h8 hx
  refine ⟨s + 1, R3, by omega, fun f => ?_, ?_, ?_⟩
  · rw [show f + (s + 1) = f + 1 + s by omega, a2]
    refine lx3 a4 ?_
    rw [a5, e41, opT, if_neg (by decide), b1]
  · rw [← Nat.add_assoc c]; exact b2
  · rw [List.append_assoc]
    exact RZ_t (Nat.le_refl p) (RZ_p (by omega) a7) b3
theorem comR {T : Nat → Int32} {N n k k' o p c q : Nat} {J : JM} {us : List Int32} {ds : List CIt} {m : Int32} {R : IM} (hJ : JOK J) (hn : 1000 ≤ n) (vt : VT T N) (hk : k' ≤ 900) (hds : k + ds.length ≤ k') (hb : HB T N k o us p c q 760 R) (eo : EO T N n J k k' (o + 1) (p + us.length + 1) c q ds m R) (ht : tC T N k' = 172) : ∃ (s : Nat) (R' : IM), s + k ≤ k' + 1 ∧ (∀ f, l_Mod_expression_12 n J (f + s) 1 R = l_Mod_expression_12 n J f 1 R') ∧ HB T N (k' + 1) o us p (c + ds.length) q 1060 R' ∧ RZ p c q ds m R R' := by
  obtain ⟨h1, h2, h3, h4, h5, h6, h7, h8⟩ := hb
  obtain ⟨s, R', R2, a1, a2, a3, a4, a5, a6, a7⟩ := eoG hn vt hk (by omega) eo (by rw [ht]; decide) (by rw [ht]; decide) (by rw [ht]; decide) (tp_s h2) (by decide)
  have e44 : R' MO 10 - 400 = 44 := (sub4 (s := 44) vt a3 (by decide)).mpr ht
  have q1 : RQ T N k' (o + 1) (p + us.length + 1) (c + ds.length) q (up R2 A_pile (p + us.length) 1060) := RQ_a (by decide) (by decide) a6
  obtain ⟨R3, b1, -, b2, b3⟩ := rStp (n := n) hJ hn vt q1
  have re : RZ (p + us.length) (c + ds.length) q [] 0 R2 R3 := RZ_l RZ_pl (RZ_p (by omega) b3)
  have re2 : RZ (p + us.length) c q ds m R R3 := RZ_r (RZ_p (by omega) a7) re
  refine ⟨s + 1, R3, by omega, fun f => ?_, ⟨b2, ?_, PU_c us (fun j hj => (re2.2.2.2.1 j hj).1) h3, h4, ?_, by omega, by omega, h8⟩, RZ_p (by omega) re2⟩
  · rw [show f + (s + 1) = f + 1 + s by omega, a2]
    refine lx3 a4 ?_
    rw [a5, e44, opT, if_neg (by decide), b_Mod_operator_238, if_pos rfl, if_pos rfl, a6.2.2.2.1, ps1, chk_i (show inb (nI (p + us.length)) 1000 from nki (by omega) (by decide)), nkc (by omega), lt, b1, Option.bind_some]
  · rw [(b3.2.2.2.1 (p + us.length) (by omega)).1, up_self]
  · rw [tp_RZ re2 (by omega)]; exact h5
theorem br1 {T : Nat → Int32} {N K n pt o k L : Nat} {J : JM} {E Tm : RF} {C : IM} (hJ : JOK J) (hn : 1000 ≤ n) (vt : VT T N) (hp : isPol pt) (o10 : o < 10) (ihE : SpE T N K n pt J (o + 1) E) (ra : RA T N K k C) (hL : C pt 0 = nI L) (hLk : L ≤ k) : OkB T N K n pt J o k L C (rIn pt E Tm (nI o) 0 C) X1 1 ∨ FaB T N K n pt J o k C (rIn pt E Tm (nI o) 0 C) X1 := by
  have p8' := p8 hp
  rcases ihE k L C ra hL hLk with ⟨C1, k1, ds, m, a1, a2, a3, a4, a5, a6, a7, a8, a9, a10⟩ | ⟨C1, k1, a1, a2, a3, a4, a5⟩
  · obtain ⟨kK, K9, -⟩ := RA_K a4
    by_cases z : tC T N k1 = 169
    · obtain ⟨C2, b1, b2, b3⟩ := tk_1 (w := 169) vt a4 z (by decide) (by decide)
      refine Or.inl ⟨C2, k1 + 1, ds, m, ?_, by omega, b2, CE_1 p8'.1 a5 b3, HT_M (by omega) a6, a7, fun J hJ R us p c q x w es hb hx => ?_⟩
      · rw [rIn, nk1, a1, Option.bind_some, if_neg one0, if_pos rfl, b_Prd_readBracket_69, show f_Rdr_take 169 C1 = some (1, C2) from b1, Option.bind_some, chk1]
      · obtain ⟨x1, x2, x3, x4, -, -⟩ := X1_f hx
        obtain ⟨hr, tp⟩ := hb_hr hb x1
        exact cloR hJ hn vt (by omega) a2 hb (Or.inl hx) x4 (a10 J hJ R _ c q hr (by rw [tp]; exact x2) (by rw [tp]; exact x3)) z
    · refine Or.inr ⟨C1, k1, ?_, by omega, a4, a5.2.2.2.2, fun J hJ R us p c q x w es hb hx => ?_⟩
      · rw [rIn, nk1, a1, Option.bind_some, if_neg one0, if_pos rfl, b_Prd_readBracket_69, show f_Rdr_take 169 C1 = some (0, C1) from tk_0 (w := 169) vt a4 (by decide) z, Option.bind_some, chk0]
      · obtain ⟨x1, x2, x3, x4, x5, x6⟩ := X1_f hx
        obtain ⟨hr, tp⟩ := hb_hr hb x1
        have := hb.2.2.2.2.2.2.1
        exact eoF hn vt (by omega) (by omega) (a10 J hJ R _ c q hr (by rw [tp]; exact x2) (by rw [tp]; exact x3)) a8 a9 tp x4 (fun y => x5 y.2) (fun y => x6 y.2) (fun y => absurd y z) (fun y => by omega)
  · refine Or.inr ⟨C1, k1, ?_, a2, a3, a4, fun J hJ R us p c q x w es hb hx => ?_⟩
    · rw [rIn, nk1, a1, Option.bind_some, if_pos rfl]
    · obtain ⟨x1, x2, x3, x4, x5, x6⟩ := X1_f hx
      obtain ⟨hr, tp⟩ := hb_hr hb x1
      exact a5 J hJ R _ c q hr (by rw [tp]; exact x2) (by rw [tp]; exact x3)
theorem br2 {T : Nat → Int32} {N K n pt o k L : Nat} {J : JM} {E Tm : RF} {C : IM} (hJ : JOK J) (hn : 1000 ≤ n) (vt : VT T N) (hp : isPol pt) (o10 : o < 10) (ihE : SpE T N K n pt J (o + 1) E) (ra : RA T N K k C) (hL : C pt 0 = nI L) (hLk : L ≤ k) : OkB T N K n pt J o k L C (rIn pt E Tm (nI o) 1 C) X2 2 ∨ FaB T N K n pt J o k C (rIn pt E Tm (nI o) 1 C) X2 := by
  have p8' := p8 hp
  have v60 : ¬ bU (760 : Int32) ∧ ¬ bS (760 : Int32) ∧ ¬ bC (760 : Int32) := by decide
  have v10 : ¬ bU (1060 : Int32) ∧ ¬ bS (1060 : Int32) ∧ ¬ bC (1060 : Int32) := by decide
  rcases ihE k L C ra hL hLk with ⟨C1, k1, ds, m, a1, a2, a3, a4, a5, a6, a7, a8, a9, a10⟩ | ⟨C1, k1, a1, a2, a3, a4, a5⟩
  · obtain ⟨kK, K9, -⟩ := RA_K a4
    have eo1 : ∀ (J : JM), JOK J → ∀ (R : IM) (us : List Int32) (p c q : Nat), HB T N k o us p c q 760 R → EO T N n J k k1 (o + 1) (p + us.length + 1) c q ds m R := fun J hJ R us p c q hb => by
      obtain ⟨hr, tp⟩ := hb_hr hb v60.1
      exact a10 J hJ R _ c q hr (by rw [tp]; exact v60.2.1) (by rw [tp]; exact v60.2.2)
    by_cases z : tC T N k1 = 172
    · obtain ⟨C2, b1, b2, b3⟩ := tk_1 (w := 172) vt a4 z (by decide) (by decide)
      have ce2 : CE pt L ds m C C2 := CE_1 p8'.1 a5 b3
      have e1 : rIn pt E Tm (nI o) 1 C = Option.bind (E (nI (o + 1)) C2) fun v12 => if (v12.1 : Int32) = 0 then (b_Prd_readBracket_67 pt E Tm v12.2) else (b_Prd_readBracket_69 pt E Tm v12.2) := by
        rw [rIn, nk1, a1, Option.bind_some, if_neg one0, if_neg one0, show f_Rdr_take 172 C1 = some (1, C2) from b1, Option.bind_some, if_neg one0]
      rcases ihE (k1 + 1) (L + ds.length) C2 b2 ce2.1 (by omega) with ⟨C3, k2, ds2, m2, d1, d2, d3, d4, d5, d6, d7, d8, d9, d10⟩ | ⟨C3, k2, d1, d2, d3, d4, d5⟩
      · obtain ⟨kK2, -, -⟩ := RA_K d4
        have ref : ∀ (J : JM), JOK J → ∀ (R : IM) (us : List Int32) (p c q : Nat), HB T N k o us p c q 760 R → ∃ (s : Nat) (R' : IM), s + k ≤ k1 + 1 ∧ (∀ f, l_Mod_expression_12 n J (f + s) 1 R = l_Mod_expression_12 n J f 1 R') ∧ HB T N (k1 + 1) o us p (c + ds.length) q 1060 R' ∧ RZ p c q ds m R R' ∧ EO T N n J (k1 + 1) k2 (o + 1) (p + us.length + 1) (c + ds.length) q ds2 m2 R' := fun J hJ R us p c q hb => by
          obtain ⟨s, R', g1, g2, g3, g4⟩ := comR hJ hn vt (by omega) a2 hb (eo1 J hJ R us p c q hb) z
          obtain ⟨hr, tp⟩ := hb_hr g3 v10.1
          exact ⟨s, R', g1, g2, g3, g4, d10 J hJ R' _ _ q hr (by rw [tp]; exact v10.2.1) (by rw [tp]; exact v10.2.2)⟩
        by_cases y : tC T N k2 = 169
        · obtain ⟨C4, f1, f2, f3⟩ := tk_1 (w := 169) vt d4 y (by decide) (by decide)
          have hs := HT_s (h := 1) d6
          refine Or.inl ⟨C4, k2 + 1, ds ++ ds2, m ||| m2, ?_, by rw [List.length_append]; omega, f2, CE_1 p8'.1 (CE_t ce2 d5) f3, HT_a (HT_m (fun _ _ => tb_l) (HT_M (by omega) a6)) (HT_m (fun _ _ => tb_r) (HT_M (by omega) hs)), mB_o a7 d7, fun J hJ R us p c q x w es hb hx => ?_⟩
          · rw [e1, d1, Option.bind_some, if_neg one0, b_Prd_readBracket_69, show f_Rdr_take 169 C3 = some (1, C4) from f1, Option.bind_some, chk1]
          · obtain ⟨rfl, rfl, rfl⟩ := hx
            obtain ⟨s, R', g1, g2, g3, g4, g5⟩ := ref J hJ R us p c q hb
            obtain ⟨s2, R3, i1, i2, i3, i4⟩ := cloR hJ hn vt (by omega) d2 g3 (Or.inr ⟨rfl, rfl, rfl⟩) (by decide) g5 y
            refine ⟨s2 + s, R3, by omega, fun f => ?_, ?_, ?_⟩
            · rw [← Nat.add_assoc, g2, i2]
            · rw [List.length_append, show c + (ds.length + ds2.length + [((310 : Int32), (0 : Int32))].length) + us.length = c + ds.length + (ds2.length + [((310 : Int32), (0 : Int32))].length) + us.length by omega]
              exact i3
            · have := RZ_t (Nat.le_refl p) g4 i4
              rw [List.append_assoc ds, List.append_assoc ds, ← List.append_assoc, List.append_assoc, Int32.or_assoc]
              rw [← List.append_assoc] at this ⊢
              simpa only [List.append_assoc] using this
        · refine Or.inr ⟨C3, k2, ?_, by omega, d4, CFp_t ce2.2.2.2.2 d5.2.2.2.2, fun J hJ R us p c q x w es hb hx => ?_⟩
          · rw [e1, d1, Option.bind_some, if_neg one0, b_Prd_readBracket_69, show f_Rdr_take 169 C3 = some (0, C3) from tk_0 (w := 169) vt d4 (by decide) y, Option.bind_some, chk0]
          · obtain ⟨rfl, rfl, rfl⟩ := hx
            obtain ⟨s, R', g1, g2, g3, g4, g5⟩ := ref J hJ R us p c q hb
            have := g3.2.2.2.2.2.2.1
            obtain ⟨s2, R3, i1, i2, i3, i4⟩ := eoF hn vt (by omega) (by omega) g5 d8 d9 (tp_s g3.2.1) (by decide) (fun w => absurd w.2 (by decide)) (fun w => absurd w.2 (by decide)) (fun w => absurd w y) (fun w => by omega)
            exact ⟨s2 + s, R3, by omega, fun f => by rw [← Nat.add_assoc, g2, i2], i3, RFq_t g4.2.2.2.2 i4⟩
      · refine Or.inr ⟨C3, k2, ?_, by omega, d3, CFp_t ce2.2.2.2.2 d4, fun J hJ R us p c q x w es hb hx => ?_⟩
        · rw [e1, d1, Option.bind_some, if_pos rfl, b_Prd_readBracket_67]
        · obtain ⟨rfl, rfl, rfl⟩ := hx
          obtain ⟨s, R', g1, g2, g3, g4⟩ := comR hJ hn vt (by omega) a2 hb (eo1 J hJ R us p c q hb) z
          obtain ⟨hr, tp⟩ := hb_hr g3 v10.1
          obtain ⟨s2, R3, i1, i2, i3, i4⟩ := d5 J hJ R' _ _ q hr (by rw [tp]; exact v10.2.1) (by rw [tp]; exact v10.2.2)
          exact ⟨s2 + s, R3, by omega, fun f => by rw [← Nat.add_assoc, g2, i2], i3, RFq_t g4.2.2.2.2 i4⟩
    · refine Or.inr ⟨C1, k1, ?_, by omega, a4, a5.2.2.2.2, fun J hJ R us p c q x w es hb hx => ?_⟩
      · rw [rIn, nk1, a1, Option.bind_some, if_neg one0, if_neg one0, show f_Rdr_take 172 C1 = some (0, C1) from tk_0 (w := 172) vt a4 (by decide) z, Option.bind_some, if_pos rfl, b_Prd_readBracket_67]
      · obtain ⟨rfl, rfl, rfl⟩ := hx
        have := hb.2.2.2.2.2.2.1
        exact eoF hn vt (by omega) (by omega) (eo1 J hJ R us p c q hb) a8 a9 (tp_s hb.2.1) (by decide) (fun w => absurd w.2 (by decide)) (fun w => z w.1) (fun _ w => absurd w (by decide)) (fun w => by omega)
  · refine Or.inr ⟨C1, k1, ?_, a2, a3, a4, fun J hJ R us p c q x w es hb hx => ?_⟩
    · rw [rIn, nk1, a1, Option.bind_some, if_pos rfl]
    · obtain ⟨rfl, rfl, rfl⟩ := hx
      obtain ⟨hr, tp⟩ := hb_hr hb v60.1
      exact a5 J hJ R _ c q hr (by rw [tp]; exact v60.2.1) (by rw [tp]; exact v60.2.2)
theorem rbE {pt : Nat} {E Tm : RF} {x1 x2 : Int32} {I : IM} : f_Prd_readBracket pt E Tm x1 x2 I = if (I 1 1 : Int32) = (168 : Int32) then (if x1 < (10 : Int32) then (Option.bind (f_Rdr_advance I) fun v3 => rIn pt E Tm x1 x2 v3) else (some (0, I))) else (some (0, I)) := rfl
theorem tmB {T : Nat → Int32} {N K n pt o k L : Nat} {J : JM} {E Tm : RF} {C : IM} (hJ : JOK J) (hn : 1000 ≤ n) (vt : VT T N) (hp : isPol pt) (ho : o ≤ 10) (ih : o < 10 → SpE T N K n pt J (o + 1) E) (ra : RA T N K k C) (hL : C pt 0 = nI L) (hLk : L ≤ k) (ht : tC T N k = 168) : OkT T N K n pt J o k L C (f_Prd_readTerm pt E Tm (nI o) C) ∨ FaT T N K n pt J o k C (f_Prd_readTerm pt E Tm (nI o) C) := by
  have p8' := p8 hp
  obtain ⟨kK, K9, hK⟩ := RA_K ra
  have e := c11 ra ht
  have ec : f_Prd_readTerm pt E Tm (nI o) C = Option.bind (f_Prd_readBracket pt E Tm (nI o) 0 C) fun v10 => chk ((v10.1 : Int32) = 0 ∨ (v10.1 : Int32) = 1) <| some (v10.1, v10.2) := by
    rw [f_Prd_readTerm, e, if_neg (by decide), if_neg (by decide), if_neg (by decide), if_pos (by decide)]
  by_cases h10 : o = 10
  · subst h10
    refine Or.inr (faT0 vt ra ?_ (fun J hJ R us p c q hr => ?_))
    · rw [ec, rbE, e, if_pos (show nI 168 = 168 from rfl), if_neg (show ¬ nI 10 < 10 by decide), Option.bind_some, chk0]
    · rw [opdB vt hr.1.1 ht, pshF hr.1, Option.bind_some, stp0 (by rw [up_self]; exact (tP_b vt).1), Option.bind_some]
  have o10 : o < 10 := by omega
  have kl : k < K := kltK hK kK (by omega) (by omega)
  obtain ⟨C1, a1, a2, a3⟩ := adC vt ra kl
  have ce1 : CE pt L [] 0 C C1 := CE_0 p8'.1 a3 hL
  have ed : f_Prd_readBracket pt E Tm (nI o) 0 C = rIn pt E Tm (nI o) 0 C1 := by
    rw [rbE, e, if_pos (show nI 168 = 168 from rfl), if_pos (lt10 o10), a1, Option.bind_some]
  have ref : ∀ (J : JM), JOK J → ∀ (R : IM) (us : List Int32) (p c q : Nat), HR T N k o us p c q R → ∃ R2, f_Mod_operand n J R = some (1, R2) ∧ HB T N (k + 1) o us p c q 40 R2 ∧ RZ p c q [] 0 R R2 := fun J hJ R us p c q hr => by
    obtain ⟨h1, h2, h3, h4, h5, h6, h7⟩ := hr
    obtain ⟨R1, b1, b2, b3, b4, -⟩ := psh1 (x := 40) (pl := 0) h1 o10 (by omega)
    obtain ⟨R2, d1, -, d2, d3⟩ := rStp (n := n) hJ hn vt b2
    refine ⟨R2, ?_, ⟨d2, ?_, PU_c us (fun j hj => ?_) h2, h3, ?_, by omega, by omega, h7⟩, RZ_l (RZ_p (Nat.le_add_right _ _) b3) (RZ_p (by omega) d3)⟩
    · rw [opdB vt h1.1 ht, b1, Option.bind_some, d1, Option.bind_some]
    · rw [(d3.2.2.2.1 (p + us.length) (by omega)).1]; exact b4
    · rw [(d3.2.2.2.1 j (by omega)).1, (b3.2.2.2.1 j hj).1]
    · rw [tp_RZ d3 (by omega), tp_RZ b3 (by omega)]; exact h4
  rcases br1 (Tm := Tm) (L := L) hJ hn vt hp o10 (ih o10) a2 ce1.1 (by omega) with ⟨C2, k', ds, m, b1, b2, b3, b4, b5, b6, b7⟩ | ⟨C2, k', b1, b2, b3, b4, b5⟩
  · refine Or.inl ⟨C2, k', ds, m, ?_, by omega, by omega, b3, CE_l ce1 b4, b5, b6, fun J hJ R us p c q hr => ?_⟩
    · rw [ec, ed, b1, Option.bind_some, chk1]
    · obtain ⟨R2, c1, c2, c3⟩ := ref J hJ R us p c q hr
      obtain ⟨s, R', d1, d2, d3, d4⟩ := b7 J hJ R2 us p c q 40 0 [] c2 (Or.inl ⟨rfl, rfl, rfl⟩)
      rw [List.append_nil, Int32.or_zero] at d4
      exact ⟨s + 1, R', by omega, fun f => by rw [← Nat.add_assoc, lx1 hr.1.2.1 c1, d2], d3, RZ_l c3 d4⟩
  · refine Or.inr ⟨C2, k', ?_, by omega, b3, CFp_t (CF_1 a3) b4, fun J hJ R us p c q hr => ?_⟩
    · rw [ec, ed, b1, Option.bind_some, chk0]
    · obtain ⟨R2, c1, c2, c3⟩ := ref J hJ R us p c q hr
      obtain ⟨s, R', d1, d2, d3, d4⟩ := b5 J hJ R2 us p c q 40 0 [] c2 (Or.inl ⟨rfl, rfl, rfl⟩)
      exact ⟨s + 1, R', by omega, fun f => by rw [← Nat.add_assoc, lx1 hr.1.2.1 c1, d2], d3, RFq_t c3.2.2.2.2 d4⟩
