/-! policy: parts, and expressions -/
def PO (T : Nat → Int32) (N n : Nat) (J : JM) (k k' o p c q : Nat) (ds : List CIt) (m : Int32) (R : IM) : Prop := ∃ (s : Nat) (R' R1 : IM), s + k ≤ k' ∧ (∀ f, l_Mod_expression_12 n J (f + s) 1 R = l_Mod_expression_12 n J f 2 R') ∧ RB T N k' R' ∧ R' MO 14 = -1 ∧ f_Mod_endParts R' = some R1 ∧ RQ T N k' o p (c + ds.length) q R1 ∧ RZ p c q ds m R R1 ∧ (tQ (tC T N k') → ∃ R3, f_Mod_operator n J R' = some (0, R3) ∧ R3 MO 14 = nI (tP T N k') ∧ RFq q R R3)
def OkP (T : Nat → Int32) (N K n pt : Nat) (J : JM) (o k L : Nat) (C : IM) (F : Option (Int32 × IM)) : Prop := ∃ (C' : IM) (k' : Nat) (ds : List CIt) (m : Int32), F = some (1, C') ∧ k + ds.length ≤ k' ∧ k < k' ∧ RA T N K k' C' ∧ CE pt L ds m C C' ∧ HT m (3 * (11 - o)) 0 1 ds ∧ mB m ∧ ¬ tS (tC T N k') ∧ ∀ (J : JM), JOK J → ∀ (R : IM) (p c q : Nat), HR T N k o [] p c q R → ¬ bS (tpR R p) → ¬ bC (tpR R p) → PO T N n J k k' o p c q ds m R
def xq (t : Nat) : Int32 := if t = 188 then 60 else nI (m2r t)
theorem tqg {t : Nat} (h : tQ t) : bC (xq t) ∧ trS (xq t) = nI t ∧ (∀ j, clX (xq t, 0) j = 0) ∧ xq t ∈ ([38, 43, 45, 60, 94, 124, 202, 203, 204] : List Int32) ∧ t ≠ 100 ∧ t ≠ 102 ∧ ¬ bU (xq t) ∧ ¬ bS (xq t) ∧ ¬ tS t ∧ t ≠ 191 := by
  rcases h with rfl | rfl | rfl | rfl <;> exact ⟨by decide, by decide, fun _ => rfl, by decide, by decide, by decide, by decide, by decide, by decide, by decide⟩
theorem opQ {T : Nat → Int32} {N n k : Nat} {J : JM} {R : IM} (vt : VT T N) (rb : RB T N k R) (h : tQ (tC T N k)) : f_Mod_operator n J R = b_Mod_operator_70 n J (R MO 10 - 400) R := by
  obtain ⟨e1, e2, e3⟩ := t317 vt rb
  have e4 : R MO 10 - 400 = 60 ↔ tC T N k = 188 := sub4 (s := 60) vt rb (by decide)
  rw [f_Mod_operator, isS_0 (fun y => (tqg h).2.2.2.2.2.2.2.2.1 ((ts_i vt rb).mp y)), Option.bind_some, if_pos rfl]
  by_cases z1 : R MO 10 = 202
  · rw [if_pos z1]
  rw [if_neg z1]
  by_cases z2 : R MO 10 = 203
  · rw [if_pos z2]
  rw [if_neg z2]
  by_cases z3 : R MO 10 = 204
  · rw [if_pos z3]
  rw [if_neg z3]
  have z4 : R MO 10 - 400 = 60 := e4.mpr (by
    rcases h with y | y | y | y
    · exact absurd (e1.mpr y) z1
    · exact absurd (e2.mpr y) z2
    · exact y
    · exact absurd (e3.mpr y) z3)
  rw [if_pos z4]
/-- a comparing sign, where one waits already -/
theorem opQF {T : Nat → Int32} {N n k o P c q : Nat} {J : JM} {x : Int32} {R R1 : IM} (vt : VT T N) (rb : RB T N k R) (h : tQ (tC T N k)) (e : f_Mod_endSum R = some R1) (hq : RQ T N k o (P + 1) c q R1) (hP : P + 1 ≤ 1000) (hx : R1 A_pile P = x) (bx : bC x) : f_Mod_operator n J R = some (0, up R1 MO 14 (nI (tP T N k))) := by
  rw [opQ vt rb h, b_Mod_operator_70, e, Option.bind_some, top_f hq.2.2.2.1 hP, tp_s hx, Option.bind_some, isC_1 bx, Option.bind_some, if_neg one0, rFl hq.1 hq.2.1, Option.bind_some]
theorem parR {T : Nat → Int32} {N n k k1 o p c q : Nat} {J : JM} {ds : List CIt} {m : Int32} {R : IM} (hJ : JOK J) (hn : 1000 ≤ n) (vt : VT T N) (hk : k1 ≤ 900) (hr : HR T N k o [] p c q R) (hds : k + ds.length ≤ k1) (so : SO T N n J k k1 o p c q ds m R) (nC : ¬ bC (tpR R p)) (ht : tQ (tC T N k1)) : ∃ (s : Nat) (R' : IM), s + k ≤ k1 + 1 ∧ (∀ f, l_Mod_expression_12 n J (f + s) 1 R = l_Mod_expression_12 n J f 1 R') ∧ HR T N (k1 + 1) o [] (p + 1) (c + ds.length) q R' ∧ R' A_pile p = xq (tC T N k1) ∧ RZ p c q ds m R R' := by
  obtain ⟨s, R', R1, a1, a2, a3, a4, a5, a6, a7⟩ := so
  obtain ⟨h1, h2, h3, h4, h5, h6, h7⟩ := hr
  have h5' : c ≤ k := h5
  have h6' : p ≤ k := h6
  obtain ⟨t1, t2, t3, t4, t5, t6, t7, t8, t9, t10⟩ := tqg ht
  have e4 : (if R' MO 10 - 400 = (60 : Int32) then (60 : Int32) else R1 MO 10) = xq (tC T N k1) := by
    have e5 : R' MO 10 - 400 = 60 ↔ tC T N k1 = 188 := sub4 (s := 60) vt a3 (by decide)
    unfold xq
    by_cases z : tC T N k1 = 188
    · rw [if_pos (e5.mpr z), if_pos z]
    · rw [if_neg (fun y => z (e5.mp y)), if_neg z, a6.1.2.1.1 t6]
  obtain ⟨R2, b1, b2, b3, b4, -⟩ := psh0 (x := xq (tC T N k1)) (pl := 0) a6 (by omega)
  obtain ⟨R3, d1, -, d2, d3⟩ := rStp (n := n) hJ hn vt b2
  have e3 : R3 A_pile p = xq (tC T N k1) := by rw [(d3.2.2.2.1 p (by omega)).1]; exact b4
  refine ⟨s + 1, R3, by omega, fun f => ?_, HR_0 d2 (by rw [tp_s e3]; exact t7) (by omega) (by omega) h7, e3, RZ_r (RZ_r a7 b3) (RZ_p (by omega) d3)⟩
  rw [show f + (s + 1) = f + 1 + s by omega, a2]
  refine lx3 a4 ?_
  rw [opQ vt a3 ht, b_Mod_operator_70, a5, Option.bind_some, top_f a6.2.2.2.1 (by omega), Option.bind_some, tp_RZ a7 (Nat.le_refl _), isC_0 nC, Option.bind_some, if_pos rfl, e4, b1, Option.bind_some, d1, Option.bind_some]
theorem cQ1 {n pt t : Nat} {E Tm : RF} {x : Int32} {C C1 : IM} (e : f_Prd_readSum n pt E Tm x C = some (1, C1)) (h : C1 1 1 = nI t) (ht : tQ t) : f_Prd_readParts n pt E Tm x C = b_Prd_readParts_48 n pt E Tm x (nI t) C1 := by
  rw [f_Prd_readParts, e, Option.bind_some, if_neg one0, show ((1 : Int32), C1).2 1 1 = nI t from h]
  rcases ht with rfl | rfl | rfl | rfl
  · rw [if_pos (by decide)]
  · rw [if_neg (by decide), if_pos (by decide)]
  · rw [if_neg (by decide), if_neg (by decide), if_pos (by decide)]
  · rw [if_neg (by decide), if_neg (by decide), if_neg (by decide), if_pos (by decide)]
theorem cQ0 {n pt t : Nat} {E Tm : RF} {x : Int32} {C C1 : IM} (e : f_Prd_readSum n pt E Tm x C = some (1, C1)) (h : C1 1 1 = nI t) (hb : t < 1000) (ht : ¬ tQ t) : f_Prd_readParts n pt E Tm x C = some (1, C1) := by
  have n : ∀ w, w < 1000 → t ≠ w → ¬ nI t = nI w := fun w hw hne y => hne (nij (by omega) (by omega) y)
  rw [f_Prd_readParts, e, Option.bind_some, if_neg one0, show ((1 : Int32), C1).2 1 1 = nI t from h, if_neg (show ¬ nI t = 317 from n 317 (by decide) (fun e => ht (Or.inl e))), if_neg (show ¬ nI t = 289 from n 289 (by decide) (fun e => ht (Or.inr (Or.inl e)))), if_neg (show ¬ nI t = 188 from n 188 (by decide) (fun e => ht (Or.inr (Or.inr (Or.inl e))))), if_neg (show ¬ nI t = 316 from n 316 (by decide) (fun e => ht (Or.inr (Or.inr (Or.inr e)))))]
theorem spP {T : Nat → Int32} {N K n pt o : Nat} {J : JM} {E Tm : RF} (hJ : JOK J) (hn : 1000 ≤ n) (vt : VT T N) (hp : isPol pt) (ho : o ≤ 10) (iS : ∀ (k L : Nat) (C : IM), RA T N K k C → C pt 0 = nI L → L ≤ k → OkS T N K n pt J o k L C (f_Prd_readSum n pt E Tm (nI o) C) ∨ FaS T N K n pt J o k C (f_Prd_readSum n pt E Tm (nI o) C)) : ∀ (k L : Nat) (C : IM), RA T N K k C → C pt 0 = nI L → L ≤ k → OkP T N K n pt J o k L C (f_Prd_readParts n pt E Tm (nI o) C) ∨ FaE T N K n pt J o k C (f_Prd_readParts n pt E Tm (nI o) C) := by
  intro k L C ra hL hLk
  have p8' := p8 hp
  rcases iS k L C ra hL hLk with ⟨C1, k1, ds, m, b1, b2, b3, b4, b5, b6, b7, b8, b9⟩ | ⟨C1, k1, b1, b2, b3, b4, b5⟩
  rotate_left
  · refine Or.inr ⟨C1, k1, ?_, b2, b3, b4, fun J hJ R p c q hr nS nC => b5 J hJ R p c q hr nS⟩
    rw [f_Prd_readParts, b1, Option.bind_some, if_pos rfl]
  obtain ⟨kK, K9, hK⟩ := RA_K b4
  by_cases z : tQ (tC T N k1)
  rotate_left
  · refine Or.inl ⟨C1, k1, ds, m, cQ0 b1 b4.2.2.2.2.1 (tC_b vt) z, b2, b3, b4, b5, HT_M (by omega) b6, b7, b8, fun J hJ R p c q hr nS nC => ?_⟩
    obtain ⟨s, R', R1, a1, a2, a3, a4, a5, a6, a7⟩ := b9 J hJ R p c q hr nS
    have h6' : p ≤ k := hr.2.2.2.2.2.1
    exact ⟨s, R', R1, a1, a2, a3, a4, eP_0 a5 a6.2.2.2.1 (by omega) (by rw [tp_RZ a7 (Nat.le_refl _)]; exact nC), a6, a7, fun y => absurd y z⟩
  obtain ⟨t1, t2, t3, t4, t5, t6, t7, t8, t9, t10⟩ := tqg z
  obtain ⟨C2, a1, a2, a3⟩ := adC vt b4 (kltK hK kK t5 t6)
  have ce2 : CE pt L ds m C C2 := CE_1 p8'.1 b5 a3
  have ec : f_Prd_readParts n pt E Tm (nI o) C = Option.bind (f_Prd_readSum n pt E Tm (nI o) C2) fun v10 => if (v10.1 : Int32) = 0 then (some (0, v10.2)) else (Option.bind (f_Pol_append pt (nI (tC T N k1)) 0 v10.2) fun v13 => some (1, v13.2)) := by
    rw [cQ1 b1 b4.2.2.2.2.1 z, b_Prd_readParts_48, a1, Option.bind_some]
  rcases iS (k1 + 1) (L + ds.length) C2 a2 ce2.1 (by omega) with ⟨C3, k2, ds2, m2, d1, d2, d3, d4, d5, d6, d7, d8, d9⟩ | ⟨C3, k2, d1, d2, d3, d4, d5⟩
  · obtain ⟨kK2, -, -⟩ := RA_K d4
    have ce3 : CE pt L (ds ++ ds2) (m ||| m2) C C3 := CE_t ce2 d5
    have ap := apC2 (pt := pt) (L := L + (ds ++ ds2).length) (C := C3) (x1 := nI (tC T N k1)) (x2 := 0) (by rw [List.length_append]; omega) ce3.1
    have hl : ((ds ++ ds2) ++ [(xq (tC T N k1), (0 : Int32))]).length = ds.length + ds2.length + 1 := by rw [List.length_append, List.length_append]; rfl
    have hs := HT_s (h := 1) d6
    refine Or.inl ⟨_, k2, (ds ++ ds2) ++ [(xq (tC T N k1), 0)], m ||| m2, ?_, by rw [hl]; omega, by omega, RA_ap p8'.1 d4, CE_s ce3 (CE_ap p8'.1 t2 (t3 _)), HT_a (HT_a (HT_m (fun _ _ => tb_l) (HT_M (by omega) b6)) (HT_m (fun _ _ => tb_r) (HT_M (by omega) hs))) (HT_b (b := 0) t4 (by omega)), mB_o b7 d7, d8, fun J hJ R p c q hr nS nC => ?_⟩
    · rw [ec, d1, Option.bind_some, if_neg one0, ap, Option.bind_some]
    · obtain ⟨s, R3, e1, e2, e3, e4, e5⟩ := parR hJ hn vt (by omega) hr b2 (b9 J hJ R p c q hr nS) nC z
      obtain ⟨s2, R4, R5, g1, g2, g3, g4, g5, g6, g7⟩ := d9 J hJ R3 (p + 1) (c + ds.length) q e3 (by rw [tp_s e4]; exact t8)
      have h5' : c ≤ k := hr.2.2.2.2.1
      have h6' : p ≤ k := hr.2.2.2.2.2.1
      have e6 : R5 A_pile p = xq (tC T N k1) := by rw [(g7.2.2.2.1 p (by omega)).1]; exact e4
      obtain ⟨R6, i1, i2, i3⟩ := eP_1 (P := p) g5 g6 e6 t1 (by omega) (by omega)
      refine ⟨s2 + s, R4, R6, by omega, fun f => by rw [← Nat.add_assoc, e2, g2], g3, g4, i1, ?_, ?_, fun y => ⟨_, opQF vt g3 y g5 g6 (by omega) e6 t1, up_self, RFq_t e5.2.2.2.2 (RFq_t g7.2.2.2.2 (RFq_u (by decide)))⟩⟩
      · rw [hl, show c + (ds.length + ds2.length + 1) = c + ds.length + ds2.length + 1 by omega]; exact i2
      · have := RZ_t (Nat.le_refl p) (RZ_t (Nat.le_succ p) e5 g7) (by rw [List.length_append, ← Nat.add_assoc]; exact i3)
        rw [Int32.or_zero] at this
        exact this
  · refine Or.inr ⟨C3, k2, ?_, by omega, d3, CFp_t ce2.2.2.2.2 d4, fun J hJ R p c q hr nS nC => ?_⟩
    · rw [ec, d1, Option.bind_some, if_pos rfl]
    · obtain ⟨s, R3, e1, e2, e3, e4, e5⟩ := parR hJ hn vt (by omega) hr b2 (b9 J hJ R p c q hr nS) nC z
      obtain ⟨s2, R4, g1, g2, g3, g4⟩ := d5 J hJ R3 (p + 1) (c + ds.length) q e3 (by rw [tp_s e4]; exact t8)
      exact ⟨s2 + s, R4, by omega, fun f => by rw [← Nat.add_assoc, e2, g2], g3, RFq_t e5.2.2.2.2 g4⟩
/-- a question mark -/
theorem op63 {T : Nat → Int32} {N n k : Nat} {J : JM} {R : IM} (vt : VT T N) (rb : RB T N k R) (h : tC T N k = 191) : f_Mod_operator n J R = Option.bind (f_Mod_endParts R) fun v26 => Option.bind (f_Mod_push 63 (v26 MO 15) 1 v26) fun v28 => Option.bind (f_Mod_emit 303 0 v28) fun v30 => Option.bind (f_Mod_step n J v30) fun v32 => some (1, v32) := by
  obtain ⟨e1, e2, e3⟩ := t317 vt rb
  have e4 : ¬ R MO 10 - 400 = 60 := fun y => by have := (sub4 (s := 60) vt rb (by decide)).mp y; omega
  have e5 : R MO 10 - 400 = 63 := (sub4 (s := 63) vt rb (by decide)).mpr h
  rw [f_Mod_operator, isS_0 (fun y => by have := (ts_i vt rb).mp y; rw [h] at this; revert this; decide), Option.bind_some, if_pos rfl, if_neg (fun y => by have := e1.mp y; omega), if_neg (fun y => by have := e2.mp y; omega), if_neg (fun y => by have := e3.mp y; omega), if_neg e4, if_pos e5]
theorem quR {T : Nat → Int32} {N n k k1 o p c q : Nat} {J : JM} {ds : List CIt} {m : Int32} {R : IM} (hJ : JOK J) (hn : 1000 ≤ n) (vt : VT T N) (hk : k1 ≤ 900) (o10 : o < 10) (hr : HR T N k o [] p c q R) (hds : k + ds.length ≤ k1) (po : PO T N n J k k1 o p c q ds m R) (ht : tC T N k1 = 191) : ∃ (s : Nat) (R' : IM), s + k ≤ k1 + 1 ∧ (∀ f, l_Mod_expression_12 n J (f + s) 1 R = l_Mod_expression_12 n J f 1 R') ∧ RQ T N (k1 + 1) (o + 1) (p + 1) (c + ds.length + 1) q R' ∧ R' A_pile p = 63 ∧ R' A_pileAt p = nI (c + ds.length) ∧ RZ p c q (ds ++ [(303, -nI (c + ds.length))]) m R R' := by
  obtain ⟨s, R', R1, a1, a2, a3, a4, a5, a6, a7, -⟩ := po
  have h5' : c ≤ k := hr.2.2.2.2.1
  have h6' : p ≤ k := hr.2.2.2.2.2.1
  obtain ⟨R2, b1, b2, b3, b4, b5⟩ := psh1 (x := 63) (pl := nI (c + ds.length)) a6 o10 (by omega)
  obtain ⟨R3, d1, d2, d3, -⟩ := rEm (d := (303, -nI (c + ds.length))) (x := 303) (v := 0) (by omega) b2 rfl (Int32.add_right_neg _)
  obtain ⟨R4, f1, -, f2, f3⟩ := rStp (n := n) hJ hn vt d2
  refine ⟨s + 1, R4, by omega, fun f => ?_, f2, ?_, ?_, ?_⟩
  · rw [show f + (s + 1) = f + 1 + s by omega, a2]
    refine lx3 a4 ?_
    rw [op63 vt a3 ht, a5, Option.bind_some, a6.2.2.2.2.1, b1, Option.bind_some, d1, Option.bind_some, f1, Option.bind_some]
  · rw [(f3.2.2.2.1 p (by omega)).1, (d3.2.2.2.1 p (by omega)).1]; exact b4
  · rw [(f3.2.2.2.1 p (by omega)).2, (d3.2.2.2.1 p (by omega)).2]; exact b5
  · have := RZ_t (Nat.le_succ p) (RZ_r a7 b3) d3
    rw [Int32.or_zero] at this
    refine RZ_r this ?_
    rw [List.length_append]
    exact RZ_p (by omega) f3
