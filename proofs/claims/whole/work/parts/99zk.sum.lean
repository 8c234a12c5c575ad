/-! policy: sums and parts -/
def FaS (T : Nat → Int32) (N K n pt : Nat) (J : JM) (o k : Nat) (C : IM) (F : Option (Int32 × IM)) : Prop := ∃ (C' : IM) (k' : Nat), F = some (0, C') ∧ k ≤ k' ∧ RA T N K k' C' ∧ CFp pt C C' ∧ ∀ (J : JM), JOK J → ∀ (R : IM) (p c q : Nat), HR T N k o [] p c q R → ¬ bS (tpR R p) → ∃ (s : Nat) (R' : IM), s + k ≤ k' + 2 ∧ (∀ f, l_Mod_expression_12 n J (f + s) 1 R = some R') ∧ R' MO 14 = nI (tP T N k') ∧ RFq q R R'
def SO (T : Nat → Int32) (N n : Nat) (J : JM) (k k' o p c q : Nat) (ds : List CIt) (m : Int32) (R : IM) : Prop := ∃ (s : Nat) (R' R1 : IM), s + k ≤ k' ∧ (∀ f, l_Mod_expression_12 n J (f + s) 1 R = l_Mod_expression_12 n J f 2 R') ∧ RB T N k' R' ∧ R' MO 14 = -1 ∧ f_Mod_endSum R' = some R1 ∧ RQ T N k' o p (c + ds.length) q R1 ∧ RZ p c q ds m R R1
def OkS (T : Nat → Int32) (N K n pt : Nat) (J : JM) (o k L : Nat) (C : IM) (F : Option (Int32 × IM)) : Prop := ∃ (C' : IM) (k' : Nat) (ds : List CIt) (m : Int32), F = some (1, C') ∧ k + ds.length ≤ k' ∧ k < k' ∧ RA T N K k' C' ∧ CE pt L ds m C C' ∧ HT m (3 * (10 - o) + 2) 0 1 ds ∧ mB m ∧ ¬ tS (tC T N k') ∧ ∀ (J : JM), JOK J → ∀ (R : IM) (p c q : Nat), HR T N k o [] p c q R → ¬ bS (tpR R p) → SO T N n J k k' o p c q ds m R
theorem okT0 {T : Nat → Int32} {N n k k' o : Nat} {J : JM} {ds : List CIt} {m : Int32} (h : ∀ (J : JM), JOK J → ∀ (R : IM) (us : List Int32) (p c q : Nat), HR T N k o us p c q R → ∃ (s : Nat) (R' : IM), s + k ≤ k' ∧ (∀ f, l_Mod_expression_12 n J (f + s) 1 R = l_Mod_expression_12 n J f 2 R') ∧ RQ T N k' (o - us.length) p (c + ds.length + us.length) q R' ∧ RZ p c q (ds ++ uI us) m R R') (hJ : JOK J) {R : IM} {p c q : Nat} (hr : HR T N k o [] p c q R) : ∃ (s : Nat) (R' : IM), s + k ≤ k' ∧ (∀ f, l_Mod_expression_12 n J (f + s) 1 R = l_Mod_expression_12 n J f 2 R') ∧ RQ T N k' o p (c + ds.length) q R' ∧ RZ p c q ds m R R' := by
  obtain ⟨s, R', a, b, c, d⟩ := h J hJ R [] p c q hr
  rw [show uI [] = [] from rfl, List.append_nil] at d
  exact ⟨s, R', a, b, c, d⟩
theorem iss_1 {t : Nat} {I : IM} (h : tS t) : f_Prd_isSumSign (nI t) I = some 1 := by
  rcases h with rfl | rfl | rfl | rfl | rfl <;> rfl
theorem iss_0 {t : Nat} {I : IM} (hb : t < 1000) (h : ¬ tS t) : f_Prd_isSumSign (nI t) I = some 0 := by
  have n : ∀ w, w < 1000 → t ≠ w → ¬ nI t = nI w := fun w hw hne y => hne (nij (by omega) (by omega) y)
  rw [f_Prd_isSumSign, if_neg (show ¬ nI t = 252 from n 252 (by decide) (fun e => h (Or.inl e))), if_neg (show ¬ nI t = 166 from n 166 (by decide) (fun e => h (Or.inr (Or.inl e)))), if_neg (show ¬ nI t = 222 from n 222 (by decide) (fun e => h (Or.inr (Or.inr (Or.inl e))))), if_neg (show ¬ nI t = 171 from n 171 (by decide) (fun e => h (Or.inr (Or.inr (Or.inr (Or.inl e)))))), if_neg (show ¬ nI t = 173 from n 173 (by decide) (fun e => h (Or.inr (Or.inr (Or.inr (Or.inr e))))))]
theorem tsg {t : Nat} (h : tS t) : bS (nI (t - 128)) ∧ trS (nI (t - 128)) = nI t ∧ (∀ j, clX (nI (t - 128), 0) j = 0) ∧ nI (t - 128) ∈ ([38, 43, 45, 60, 94, 124, 202, 203, 204] : List Int32) ∧ t - 128 ∈ sgL ∧ t = 128 + (t - 128) ∧ t ≠ 100 ∧ t ≠ 102 ∧ ¬ bU (nI (t - 128)) := by
  rcases h with rfl | rfl | rfl | rfl | rfl <;> exact ⟨by decide, by decide, fun _ => rfl, by decide, by decide, by decide, by decide, by decide, by decide⟩
theorem opS {T : Nat → Int32} {N n k : Nat} {J : JM} {R : IM} (vt : VT T N) (rb : RB T N k R) (h : tS (tC T N k)) : f_Mod_operator n J R = Option.bind (f_Mod_endSum R) fun v34 => Option.bind (f_Mod_push ((R MO 10) - 400) 0 0 v34) fun v36 => Option.bind (f_Mod_step n J v36) fun v38 => some (1, v38) := by
  rw [f_Mod_operator, isS_1 ((ts_i vt rb).mpr h), Option.bind_some, if_neg one0]
theorem sumR {T : Nat → Int32} {N n k k1 o p c q : Nat} {J : JM} {ds : List CIt} {m : Int32} {R : IM} (hJ : JOK J) (hn : 1000 ≤ n) (vt : VT T N) (hk : k1 ≤ 900) (hr : HR T N k o [] p c q R) (hds : k + ds.length ≤ k1) (so : SO T N n J k k1 o p c q ds m R) (ht : tS (tC T N k1)) : ∃ (s : Nat) (R' : IM), s + k ≤ k1 + 1 ∧ (∀ f, l_Mod_expression_12 n J (f + s) 1 R = l_Mod_expression_12 n J f 1 R') ∧ HR T N (k1 + 1) o [] (p + 1) (c + ds.length) q R' ∧ R' A_pile p = nI (tC T N k1 - 128) ∧ RZ p c q ds m R R' := by
  obtain ⟨s, R', R1, a1, a2, a3, a4, a5, a6, a7⟩ := so
  obtain ⟨h1, h2, h3, h4, h5, h6, h7⟩ := hr
  have h5' : c ≤ k := h5
  have h6' : p ≤ k := h6
  obtain ⟨t1, t2, t3, t4, t5, t6, t7, t8, t9⟩ := tsg ht
  have e4 : R' MO 10 - 400 = nI (tC T N k1 - 128) := (sub4 vt a3 t5).mpr t6
  obtain ⟨R2, b1, b2, b3, b4, -⟩ := psh0 (x := nI (tC T N k1 - 128)) (pl := 0) a6 (by omega)
  obtain ⟨R3, d1, -, d2, d3⟩ := rStp (n := n) hJ hn vt b2
  have e3 : R3 A_pile p = nI (tC T N k1 - 128) := by rw [(d3.2.2.2.1 p (by omega)).1]; exact b4
  refine ⟨s + 1, R3, by omega, fun f => ?_, HR_0 d2 (by rw [tp_s e3]; exact t9) (by omega) (by omega) h7, e3, RZ_r (RZ_r a7 b3) (RZ_p (by omega) d3)⟩
  rw [show f + (s + 1) = f + 1 + s by omega, a2]
  refine lx3 a4 ?_
  rw [opS vt a3 ht, a5, Option.bind_some, e4, b1, Option.bind_some, d1, Option.bind_some]
theorem smL {T : Nat → Int32} {N K n pt o k L : Nat} {J : JM} {E Tm : RF} {C : IM} (hJ : JOK J) (hn : 1000 ≤ n) (vt : VT T N) (hp : isPol pt) (ho : o ≤ 10) (hL : L ≤ k) (iT : SpT T N K n pt J o (f_Prd_readTerm pt E Tm)) : ∀ (d f i k1 : Nat) (C1 : IM) (ds : List CIt) (m : Int32), K - k1 ≤ d → d < f → i < k1 → k + ds.length ≤ k1 → k < k1 → RA T N K k1 C1 → CE pt L ds m C C1 → HT m (3 * (10 - o) + 2) 0 1 ds → mB m → (∀ (J : JM), JOK J → ∀ (R : IM) (p c q : Nat), HR T N k o [] p c q R → ¬ bS (tpR R p) → SO T N n J k k1 o p c q ds m R) → OkS T N K n pt J o k L C (l_Prd_readSum_12 n pt E Tm f (nI o) (nI i) C1) ∨ FaS T N K n pt J o k C (l_Prd_readSum_12 n pt E Tm f (nI o) (nI i) C1) := by
  have p8' := p8 hp
  intro d
  induction d with
  | zero =>
    intro f i k1 C1 ds m hd hf hi hds hk ra ce ht mb so
    obtain ⟨g, rfl⟩ : ∃ g, f = g + 1 := ⟨f - 1, by omega⟩
    obtain ⟨kK, K9, hK⟩ := RA_K ra
    have i9 : ¬ (900 : Int32) ≤ nI i := nk (N := 900) (by omega) (by decide)
    have z : ¬ tS (tC T N k1) := fun y => by
      have := kltK hK kK (by rcases y with e | e | e | e | e <;> omega) (by rcases y with e | e | e | e | e <;> omega)
      omega
    refine Or.inl ⟨C1, k1, ds, m, ?_, hds, hk, ra, ce, ht, mb, z, so⟩
    rw [l_Prd_readSum_12, if_neg i9, ra.2.2.2.2.1, iss_0 (tC_b vt) z, Option.bind_some, if_pos rfl, b_Prd_readSum_73]
  | succ d ih =>
    intro f i k1 C1 ds m hd hf hi hds hk ra ce ht mb so
    obtain ⟨g, rfl⟩ : ∃ g, f = g + 1 := ⟨f - 1, by omega⟩
    obtain ⟨kK, K9, hK⟩ := RA_K ra
    have i9 : ¬ (900 : Int32) ≤ nI i := nk (N := 900) (by omega) (by decide)
    by_cases z : tS (tC T N k1)
    rotate_left
    · refine Or.inl ⟨C1, k1, ds, m, ?_, hds, hk, ra, ce, ht, mb, z, so⟩
      rw [l_Prd_readSum_12, if_neg i9, ra.2.2.2.2.1, iss_0 (tC_b vt) z, Option.bind_some, if_pos rfl, b_Prd_readSum_73]
    obtain ⟨t1, t2, t3, t4, t5, t6, t7, t8, t9⟩ := tsg z
    obtain ⟨C2, a1, a2, a3⟩ := adC vt ra (kltK hK kK t7 t8)
    have ce2 : CE pt L ds m C C2 := CE_1 p8'.1 ce a3
    have ec : l_Prd_readSum_12 n pt E Tm (g + 1) (nI o) (nI i) C1 = Option.bind (f_Prd_readTerm pt E Tm (nI o) C2) fun v10 => if (v10.1 : Int32) = 0 then (some (0, v10.2)) else (Option.bind (f_Pol_append pt (nI (tC T N k1)) 0 v10.2) fun v13 => (l_Prd_readSum_12 n pt E Tm g) (nI o) (nI (i + 1)) v13.2) := by
      rw [l_Prd_readSum_12, if_neg i9, ra.2.2.2.2.1, iss_1 z, Option.bind_some, if_neg one0, a1, Option.bind_some, nk1]
    rcases iT (k1 + 1) (L + ds.length) C2 a2 ce2.1 (by omega) with ⟨C3, k2, ds2, m2, b1, b2, b3, b4, b5, b6, b7, b8⟩ | ⟨C3, k2, b1, b2, b3, b4, b5⟩
    · obtain ⟨kK2, -, -⟩ := RA_K b4
      have ce3 : CE pt L (ds ++ ds2) (m ||| m2) C C3 := CE_t ce2 b5
      have ap := apC2 (pt := pt) (L := L + (ds ++ ds2).length) (C := C3) (x1 := nI (tC T N k1)) (x2 := 0) (by rw [List.length_append]; omega) ce3.1
      have hl : ((ds ++ ds2) ++ [(nI (tC T N k1 - 128), (0 : Int32))]).length = ds.length + ds2.length + 1 := by rw [List.length_append, List.length_append]; rfl
      have hs := HT_s (h := 1) b6
      rw [ec, b1, Option.bind_some, if_neg one0, ap, Option.bind_some]
      refine ih g (i + 1) k2 _ ((ds ++ ds2) ++ [(nI (tC T N k1 - 128), 0)]) (m ||| m2) (by omega) (by omega) (by omega) (by rw [hl]; omega) (by omega) (RA_ap p8'.1 b4) (CE_s ce3 (CE_ap p8'.1 t2 (t3 _))) (HT_a (HT_a (HT_m (fun _ _ => tb_l) ht) (HT_m (fun _ _ => tb_r) (HT_M (by omega) hs))) (HT_b (b := 0) t4 (by omega))) (mB_o mb b7) (fun J hJ R p c q hr nS => ?_)
      obtain ⟨s, R3, e1, e2, e3, e4, e5⟩ := sumR hJ hn vt (by omega) hr hds (so J hJ R p c q hr nS) z
      obtain ⟨s2, R4, g1, g2, g3, g4⟩ := okT0 b8 hJ e3
      have h5' : c ≤ k := hr.2.2.2.2.1
      have h6' : p ≤ k := hr.2.2.2.2.2.1
      obtain ⟨R5, i1, i2, i3⟩ := eS_1 (P := p) g3 (by rw [(g4.2.2.2.1 p (by omega)).1]; exact e4) t1 (by omega) (by omega)
      refine ⟨s2 + s, R4, R5, by omega, fun f => by rw [← Nat.add_assoc, e2, g2], g3.1, g3.2.1, i1, ?_, ?_⟩
      · rw [hl, show c + (ds.length + ds2.length + 1) = c + ds.length + ds2.length + 1 by omega]; exact i2
      · have := RZ_t (Nat.le_refl p) (RZ_t (Nat.le_succ p) e5 g4) (by rw [List.length_append, ← Nat.add_assoc]; exact i3)
        rw [Int32.or_zero] at this
        exact this
    · refine Or.inr ⟨C3, k2, ?_, by omega, b3, CFp_t ce2.2.2.2.2 b4, fun J hJ R p c q hr nS => ?_⟩
      · rw [ec, b1, Option.bind_some, if_pos rfl]
      · obtain ⟨s, R3, e1, e2, e3, e4, e5⟩ := sumR hJ hn vt (by omega) hr hds (so J hJ R p c q hr nS) z
        obtain ⟨s2, R4, g1, g2, g3, g4⟩ := b5 J hJ R3 [] (p + 1) (c + ds.length) q e3
        exact ⟨s2 + s, R4, by omega, fun f => by rw [← Nat.add_assoc, e2, g2], g3, RFq_t e5.2.2.2.2 g4⟩
theorem spS {T : Nat → Int32} {N K n pt o : Nat} {J : JM} {E Tm : RF} (hJ : JOK J) (hn : 1000 ≤ n) (vt : VT T N) (hp : isPol pt) (ho : o ≤ 10) (iT : SpT T N K n pt J o (f_Prd_readTerm pt E Tm)) : ∀ (k L : Nat) (C : IM), RA T N K k C → C pt 0 = nI L → L ≤ k → OkS T N K n pt J o k L C (f_Prd_readSum n pt E Tm (nI o) C) ∨ FaS T N K n pt J o k C (f_Prd_readSum n pt E Tm (nI o) C) := by
  intro k L C ra hL hLk
  rcases iT k L C ra hL hLk with ⟨C1, k1, ds, m, b1, b2, b3, b4, b5, b6, b7, b8⟩ | ⟨C1, k1, b1, b2, b3, b4, b5⟩
  · obtain ⟨kK, K9, hK⟩ := RA_K b4
    have e : f_Prd_readSum n pt E Tm (nI o) C = l_Prd_readSum_12 n pt E Tm n (nI o) (nI 0) C1 := by
      rw [f_Prd_readSum, b1, Option.bind_some, if_neg one0]
      rfl
    rw [e]
    refine smL hJ hn vt hp ho hLk iT (K - k1) n 0 k1 C1 ds m (Nat.le_refl _) (by omega) (by omega) b2 b3 b4 b5 (HT_M (by omega) b6) b7 (fun J hJ R p c q hr nS => ?_)
    obtain ⟨s, R', g1, g2, g3, g4⟩ := okT0 b8 hJ hr
    have h6' : p ≤ k := hr.2.2.2.2.2.1
    exact ⟨s, R', R', g1, g2, g3.1, g3.2.1, eS_0 g3.2.2.2.1 (by omega) (by rw [tp_RZ g4 (Nat.le_refl _)]; exact nS), g3, g4⟩
  · refine Or.inr ⟨C1, k1, ?_, b2, b3, b4, fun J hJ R p c q hr nS => b5 J hJ R [] p c q hr⟩
    rw [f_Prd_readSum, b1, Option.bind_some, if_pos rfl]
