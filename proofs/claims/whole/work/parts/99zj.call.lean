/-! policy: calls, and all terms -/
def rcT (pt : Nat) (E T : RF) (x1 : Int32) (D : IM) : Option (Int32 × IM) := if x1 = (37 : Int32) then (lt (up D 7 3 ((D 7 3) ||| 32768)) fun I12 => b_Prd_readCall_75 pt E T I12) else (if x1 = (40 : Int32) then (lt (up D 7 3 ((D 7 3) ||| 65536)) fun I11 => b_Prd_readCall_75 pt E T I11) else (b_Prd_readCall_75 pt E T D))
theorem rcE {pt : Nat} {E T : RF} {x1 x2 : Int32} {I : IM} : f_Prd_readCall pt E T x1 x2 I = Option.bind (f_Rdr_advance I) fun v1 => Option.bind (f_Prd_readBracket pt E T x2 (if x1 = (37 : Int32) then 1 else 0) v1) fun v4 => if (v4.1 : Int32) = 0 then (some (0, v4.2)) else (Option.bind (f_Pol_append pt x1 0 v4.2) fun v7 => rcT pt E T x1 v7.2) := rfl
theorem tmC {T : Nat → Int32} {N K n pt o k L t h : Nat} {J : JM} {E Tm : RF} {C : IM} {X : Int32 → List CIt → Int32 → Prop} {x y w two : Int32} (hJ : JOK J) (hn : 1000 ≤ n) (vt : VT T N) (hp : isPol pt) (ho : o ≤ 10) (br : ∀ C2, o < 10 → RA T N K (k + 2) C2 → C2 pt 0 = nI L → OkB T N K n pt J o (k + 2) L C2 (rIn pt E Tm (nI o) two C2) X h ∨ FaB T N K n pt J o (k + 2) C2 (rIn pt E Tm (nI o) two C2) X) (ra : RA T N K k C) (hL : C pt 0 = nI L) (hLk : L ≤ k) (ht : tC T N k = t) (ht1 : 37 ≤ t) (ht2 : t ≤ 40) (hX : X x [(y, 0)] w) (hx : 700 + nI (m2r t) = x) (htw : (if nI t = (37 : Int32) then (1 : Int32) else 0) = two) (hy : trS y = nI t) (hy2 : ∀ j, clX (y, 0) j = 0) (hh : ∀ m, o < 10 → HT (m ||| w) (3 * (10 - o) + 1) h 1 [(y, 0)]) (hw : mB w) (hap : ∀ (k' L : Nat) (ds : List CIt) (m : Int32) (C D : IM), CE pt L ds m C D → RA T N K k' D → ∃ D', rcT pt E Tm (nI t) D = some (1, D') ∧ CE pt L ds (m ||| w) C D' ∧ RA T N K k' D') : OkT T N K n pt J o k L C (f_Prd_readTerm pt E Tm (nI o) C) ∨ FaT T N K n pt J o k C (f_Prd_readTerm pt E Tm (nI o) C) := by
  have p8' := p8 hp
  obtain ⟨kK, K9, hK⟩ := RA_K ra
  have e := c11 ra ht
  have nn : ∀ v, v < 1000 → t ≠ v → ¬ nI t = nI v := fun v hv hne y => hne (nij (by omega) (by omega) y)
  have ec : f_Prd_readTerm pt E Tm (nI o) C = Option.bind (f_Prd_readCall pt E Tm (nI t) (nI o) C) fun v7 => chk ((v7.1 : Int32) = 0 ∨ (v7.1 : Int32) = 1) <| some (v7.1, v7.2) := by
    rw [f_Prd_readTerm, e, if_neg (show ¬ nI t = 161 from nn 161 (by decide) (by omega)), if_neg (show ¬ nI t = 254 from nn 254 (by decide) (by omega)), if_neg (show ¬ nI t = 173 from nn 173 (by decide) (by omega)), if_neg (show ¬ nI t = 168 from nn 168 (by decide) (by omega)), if_neg (show ¬ nI t < 37 from fun y => by have := (nlt (b := 37) (by omega) (by decide)).mp y; omega), if_neg (show ¬ (40 : Int32) < nI t from fun y => by have := (nlt (a := 40) (by decide) (by omega)).mp y; omega)]
  have kl : k < K := kltK hK kK (by omega) (by omega)
  obtain ⟨C1, a1, a2, a3⟩ := adC vt ra kl
  have ce1 : CE pt L [] 0 C C1 := CE_0 p8'.1 a3 hL
  -- the reference, up to the bracket
  have r10 : ∀ (J : JM), JOK J → ∀ (R : IM) (us : List Int32) (p c q : Nat), HR T N k o us p c q R → ∃ R1, f_Mod_step n J R = some R1 ∧ RQ T N (k + 1) o (p + us.length) c q R1 ∧ RZ (p + us.length) c q [] 0 R R1 ∧ 700 + R MO 10 = x := fun J hJ R us p c q hr => by
    obtain ⟨R1, d1, -, d2, d3⟩ := rStp (n := n) hJ hn vt hr.1
    exact ⟨R1, d1, d2, d3, by rw [hr.1.1.2.1.1 (by omega), ht]; exact hx⟩
  have kK1 := (RA_K a2).1
  by_cases z : tC T N (k + 1) = 168
  rotate_left
  · refine Or.inr ⟨C1, k + 1, ?_, by omega, a2, CF_1 a3, fun J hJ R us p c q hr => ?_⟩
    · have : ¬ C1 1 1 = 168 := fun y => z (by rw [a2.2.2.2.2.1] at y; exact nij (b := 168) (by have := tC_b (k := k + 1) vt; omega) (by decide) y)
      rw [ec, rcE, a1, Option.bind_some, rbE, if_neg this, Option.bind_some, if_pos rfl, Option.bind_some, chk0]
    · obtain ⟨R1, d1, d2, d3, d4⟩ := r10 J hJ R us p c q hr
      have e2 : f_Mod_operand n J R = some (1, up R1 MO 14 (nI (tP T N (k + 1)))) := by
        rw [opdC vt hr.1.1 (by omega) (by omega), d1, Option.bind_some, d2.2.1, if_neg ng1, show f_Mod_is 40 R1 = some 0 from is_0 (s := 40) vt d2.1 (by decide) z, Option.bind_some, if_pos rfl, rFl d2.1 d2.2.1, Option.bind_some, b_Mod_operand_128, up_self, if_pos (tP_b vt).1, b_Mod_operand_146, stp0 (by rw [up_self]; exact (tP_b vt).1), Option.bind_some]
      refine ⟨2, _, by omega, fun f => ?_, up_self, RFq_t d3.2.2.2.2 (RFq_u (by decide))⟩
      rw [lx1 hr.1.2.1 e2, lxF (by rw [up_self]; exact (tP_b vt).1)]
  by_cases h10 : o = 10
  · subst h10
    refine Or.inr ⟨C1, k + 1, ?_, by omega, a2, CF_1 a3, fun J hJ R us p c q hr => ?_⟩
    · rw [ec, rcE, a1, Option.bind_some, rbE, c11 a2 z, if_pos (show nI 168 = 168 from rfl), if_neg (show ¬ nI 10 < 10 by decide), Option.bind_some, if_pos rfl, Option.bind_some, chk0]
    · obtain ⟨R1, d1, d2, d3, d4⟩ := r10 J hJ R us p c q hr
      have e2 : f_Mod_operand n J R = some (1, up R1 MO 14 (nI (tP T N (k + 1)))) := by
        rw [opdC vt hr.1.1 (by omega) (by omega), d1, Option.bind_some, d2.2.1, if_neg ng1, show f_Mod_is 40 R1 = some 1 from is_1 (s := 40) vt d2.1 (by decide) z, Option.bind_some, if_neg one0, b_Mod_operand_128, d2.2.1, if_neg ng1, pshF d2, Option.bind_some, b_Mod_operand_146, stp0 (by rw [up_self]; exact (tP_b vt).1), Option.bind_some]
      refine ⟨2, _, by omega, fun f => ?_, up_self, RFq_t d3.2.2.2.2 (RFq_u (by decide))⟩
      rw [lx1 hr.1.2.1 e2, lxF (by rw [up_self]; exact (tP_b vt).1)]
  have o10 : o < 10 := by omega
  obtain ⟨C2, g1, g2, g3⟩ := adC vt a2 (kltK hK kK1 (by omega) (by omega))
  have ce2 : CE pt L [] 0 C C2 := CE_1 p8'.1 ce1 g3
  have ed : f_Prd_readTerm pt E Tm (nI o) C = Option.bind (Option.bind (rIn pt E Tm (nI o) two C2) fun v4 => if (v4.1 : Int32) = 0 then (some (0, v4.2)) else (Option.bind (f_Pol_append pt (nI t) 0 v4.2) fun v7 => rcT pt E Tm (nI t) v7.2)) fun v7 => chk ((v7.1 : Int32) = 0 ∨ (v7.1 : Int32) = 1) <| some (v7.1, v7.2) := by
    rw [ec, rcE, a1, Option.bind_some, rbE, c11 a2 z, if_pos (show nI 168 = 168 from rfl), if_pos (lt10 o10), g1, Option.bind_some, htw]
  have ref : ∀ (J : JM), JOK J → ∀ (R : IM) (us : List Int32) (p c q : Nat), HR T N k o us p c q R → ∃ R2, f_Mod_operand n J R = some (1, R2) ∧ HB T N (k + 2) o us p c q x R2 ∧ RZ p c q [] 0 R R2 := fun J hJ R us p c q hr => by
    obtain ⟨R0, d1, d2, d3, d4⟩ := r10 J hJ R us p c q hr
    obtain ⟨h1, h2, h3, h4, h5, h6, h7⟩ := hr
    obtain ⟨R1, b1, b2, b3, b4, -⟩ := psh1 (x := x) (pl := 0) d2 o10 (by omega)
    obtain ⟨R2, f1, -, f2, f3⟩ := rStp (n := n) hJ hn vt b2
    refine ⟨R2, ?_, ⟨f2, ?_, PU_c us (fun j hj => ?_) h2, h3, ?_, by omega, by omega, h7⟩, RZ_l (RZ_l (RZ_p (by omega) d3) (RZ_p (Nat.le_add_right _ _) b3)) (RZ_p (by omega) f3)⟩
    · rw [opdC vt h1.1 (by omega) (by omega), d1, Option.bind_some, d2.2.1, if_neg ng1, show f_Mod_is 40 R0 = some 1 from is_1 (s := 40) vt d2.1 (by decide) z, Option.bind_some, if_neg one0, b_Mod_operand_128, d2.2.1, if_neg ng1, d4, b1, Option.bind_some, b_Mod_operand_146, f1, Option.bind_some]
    · rw [(f3.2.2.2.1 (p + us.length) (by omega)).1]; exact b4
    · rw [(f3.2.2.2.1 j (by omega)).1, (b3.2.2.2.1 j hj).1, (d3.2.2.2.1 j hj).1]
    · rw [tp_RZ f3 (by omega), tp_RZ b3 (by omega), tp_RZ d3 (by omega)]; exact h4
  rcases br C2 o10 g2 ce2.1 with ⟨C3, k', ds, m, b1, b2, b3, b4, b5, b6, b7⟩ | ⟨C3, k', b1, b2, b3, b4, b5⟩
  · obtain ⟨kK', -, -⟩ := RA_K b3
    have ap := apC2 (pt := pt) (L := L + ds.length) (C := C3) (x1 := nI t) (x2 := 0) (by omega) b4.1
    obtain ⟨D', i1, i2, i3⟩ := hap k' L (ds ++ [(y, 0)]) m C _ (CE_s (CE_l ce2 b4) (CE_ap (d := (y, 0)) p8'.1 hy (hy2 _))) (RA_ap p8'.1 b3)
    refine Or.inl ⟨D', k', ds ++ [(y, 0)], m ||| w, ?_, ?_, by omega, i3, i2, HT_a (HT_m (fun _ _ => tb_l) b5) (hh m o10), mB_o b6 hw, fun J hJ R us p c q hr => ?_⟩
    · rw [ed, b1, Option.bind_some, if_neg one0, ap, Option.bind_some, i1, Option.bind_some, chk1]
    · rw [List.length_append]; simp only [List.length_cons, List.length_nil]; omega
    · obtain ⟨R2, c1, c2, c3⟩ := ref J hJ R us p c q hr
      obtain ⟨s, R', d1, d2, d3, d4⟩ := b7 J hJ R2 us p c q x w [(y, 0)] c2 hX
      refine ⟨s + 1, R', by omega, fun f => by rw [← Nat.add_assoc, lx1 hr.1.2.1 c1, d2], ?_, RZ_l c3 d4⟩
      rw [List.length_append]; exact d3
  · refine Or.inr ⟨C3, k', ?_, by omega, b3, CFp_t ce2.2.2.2.2 b4, fun J hJ R us p c q hr => ?_⟩
    · rw [ed, b1, Option.bind_some, if_pos rfl, Option.bind_some, chk0]
    · obtain ⟨R2, c1, c2, c3⟩ := ref J hJ R us p c q hr
      obtain ⟨s, R', d1, d2, d3, d4⟩ := b5 J hJ R2 us p c q x w [(y, 0)] c2 hX
      exact ⟨s + 1, R', by omega, fun f => by rw [← Nat.add_assoc, lx1 hr.1.2.1 c1, d2], d3, RFq_t c3.2.2.2.2 d4⟩
theorem spT {T : Nat → Int32} {N K n pt o : Nat} {J : JM} {E Tm : RF} (hJ : JOK J) (hn : 1000 ≤ n) (vt : VT T N) (hp : isPol pt) (ho : o ≤ 10) (ihE : o < 10 → SpE T N K n pt J (o + 1) E) (ihT : o < 10 → SpT T N K n pt J (o + 1) Tm) : SpT T N K n pt J o (f_Prd_readTerm pt E Tm) := by
  intro k L C ra hL hLk
  have p8' := p8 hp
  obtain ⟨t, ht⟩ : ∃ t, tC T N k = t := ⟨_, rfl⟩
  by_cases z1 : t = 161
  · exact tmU (u := 33) hJ hn vt hp ho ihT ra hL hLk ht (Or.inl ⟨z1, rfl⟩)
  by_cases z2 : t = 254
  · exact tmU (u := 126) hJ hn vt hp ho ihT ra hL hLk ht (Or.inr (Or.inl ⟨z2, rfl⟩))
  by_cases z3 : t = 173
  · exact tmU (u := 301) hJ hn vt hp ho ihT ra hL hLk ht (Or.inr (Or.inr ⟨z3, rfl⟩))
  by_cases z4 : t = 168
  · exact tmB hJ hn vt hp ho ihE ra hL hLk (ht.trans z4)
  by_cases z5 : t = 37
  · refine tmC (t := 37) (h := 2) (X := X2) (x := 760) (y := 310) (w := 32768) (two := 1) hJ hn vt hp ho (fun C2 o10 r2 l2 => br2 hJ hn vt hp o10 (ihE o10) r2 l2 (by omega)) ra hL hLk (ht.trans z5) (by decide) (by decide) ⟨rfl, rfl, rfl⟩ (by decide) (by decide) (by decide) (fun j => rfl) (fun m o10 => HT_p (b := 0) (tb_r (by unfold tbi; decide)) (by omega)) (by unfold mB; decide) (fun k' L ds m C D ce rd => ⟨_, ?_, CE_nm p8'.1 ce, RA_u rd (by decide)⟩)
    rw [rcT, if_pos (by decide), lt, b_Prd_readCall_75]
  by_cases z6 : t = 38
  · refine tmC (t := 38) (h := 1) (X := X1) (x := 761) (y := 311) (w := 0) (two := 0) hJ hn vt hp ho (fun C2 o10 r2 l2 => br1 hJ hn vt hp o10 (ihE o10) r2 l2 (by omega)) ra hL hLk (ht.trans z6) (by decide) (by decide) (Or.inr (Or.inl ⟨rfl, rfl, rfl⟩)) (by decide) (by decide) (by decide) (fun j => rfl) (fun m o10 => HT_u (by decide) (by decide) (by omega)) mB_0 (fun k' L ds m C D ce rd => ⟨D, ?_, by rw [Int32.or_zero]; exact ce, rd⟩)
    rw [rcT, if_neg (by decide), if_neg (by decide), b_Prd_readCall_75]
  by_cases z7 : t = 39
  · refine tmC (t := 39) (h := 1) (X := X1) (x := 762) (y := 312) (w := 0) (two := 0) hJ hn vt hp ho (fun C2 o10 r2 l2 => br1 hJ hn vt hp o10 (ihE o10) r2 l2 (by omega)) ra hL hLk (ht.trans z7) (by decide) (by decide) (Or.inr (Or.inr (Or.inl ⟨rfl, rfl, rfl⟩))) (by decide) (by decide) (by decide) (fun j => rfl) (fun m o10 => HT_u (by decide) (by decide) (by omega)) mB_0 (fun k' L ds m C D ce rd => ⟨D, ?_, by rw [Int32.or_zero]; exact ce, rd⟩)
    rw [rcT, if_neg (by decide), if_neg (by decide), b_Prd_readCall_75]
  by_cases z8 : t = 40
  · refine tmC (t := 40) (h := 1) (X := X1) (x := 763) (y := 313) (w := 65536) (two := 0) hJ hn vt hp ho (fun C2 o10 r2 l2 => br1 hJ hn vt hp o10 (ihE o10) r2 l2 (by omega)) ra hL hLk (ht.trans z8) (by decide) (by decide) (Or.inr (Or.inr (Or.inr ⟨rfl, rfl, rfl⟩))) (by decide) (by decide) (by decide) (fun j => rfl) (fun m o10 => HT_u (by decide) (by decide) (by omega)) (by unfold mB; decide) (fun k' L ds m C D ce rd => ⟨_, ?_, CE_nm p8'.1 ce, RA_u rd (by decide)⟩)
    rw [rcT, if_neg (by decide), if_pos (by decide), lt, b_Prd_readCall_75]
  by_cases z9 : t = 101
  · exact Or.inl (tmN hJ hn vt hp ra hL hLk (ht.trans z9))
  by_cases z10 : 22 ≤ t ∧ t ≤ 36
  · exact Or.inl (tmA (j := t - 22) hJ hn vt hp ra hL hLk (by omega) (by omega))
  · exact Or.inr (tmF vt ra ht ⟨z1, z2, z3, z4⟩ (by omega) z10 z9)
