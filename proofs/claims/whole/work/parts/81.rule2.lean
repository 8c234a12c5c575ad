/-! a rule worked out, statement by statement -/
theorem FRr_u {R : IM} {j : Nat} {v : Int32} (h : (82 ≤ j ∧ j ≤ 86) ∨ j = 68 ∨ j = 55) : FRr R (up R MO j v) := ⟨fun b q1 _ _ _ => fu q1, fun i q1 q2 q3 => up_ne (Or.inr (by omega))⟩
theorem FRr_0 {R : IM} : FRr R R := ⟨fun _ _ _ _ _ => rfl, fun _ _ _ _ => rfl⟩
theorem FCr_0 {W m : Nat} {C : IM} : FCr W m C C := ⟨fun _ _ _ _ _ _ _ => rfl, fun _ _ => rfl, fun _ _ => rfl⟩
theorem FCr_h {W m : Nat} {C : IM} {v : Int32} (w : Wm W m) : FCr W m C (up C W 2 v) := by
  unfold Wm at w
  exact ⟨fun b q1 _ _ _ _ _ => fu q1, fun j _ => up_o (by omega), fun j _ => up_o (by omega)⟩
theorem FCr_r {W m k : Nat} {C : IM} {v : Int32} (w : Wm W m) (hk : 1 ≤ k) (hk2 : k < 10) : FCr W m C (up C (W + 1) k v) := by
  unfold Wm at w
  exact ⟨fun b _ q2 _ _ _ _ => fu q2, fun j _ => up_o (by omega), fun j hj => up_ne (Or.inr (by omega))⟩
theorem rl_w {n f x s T : Nat} {R R' : IM} {v : Int32} (hx : x < 602) (hT : R A_ruleTo x = nI T) (hs : s < T) (hT2 : T ≤ 600) (h82 : R MO 82 = 0) (hf : f_Mod_work n (R A_statementFrom s) (R A_statementTo s) R = some (v, R')) : l_Mod_rule_141 n (f + 1) (nI x) (nI s) R = if R' MO 82 = 0 then (if R' A_statementKind s = 50 then (if v = 0 then (if (300 : Int32) ≤ nI s then (b_Mod_rule_224 n (l_Mod_rule_141 n f) (nI x) (nI s) v (R' A_statementKind s) (-1) (up R' MO 82 3)) else (chk (inb (nI s) 300) <| b_Mod_rule_224 n (l_Mod_rule_141 n f) (nI x) (nI s) v (R' A_statementKind s) (R' A_statementAt s) (up R' MO 82 3))) else b_Mod_rule_227 n (l_Mod_rule_141 n f) (nI x) (nI s) v (R' A_statementKind s) R') else b_Mod_rule_227 n (l_Mod_rule_141 n f) (nI x) (nI s) v (R' A_statementKind s) R') else b_Mod_rule_227 n (l_Mod_rule_141 n f) (nI x) (nI s) v (R' A_statementKind s) R' := by
  rw [l_Mod_rule_141, chk_i (nki hx (by decide)), nkc (show x < 5000 by omega), hT, if_neg (nk hs (by omega)), h82, if_pos rfl, chk_i (nki (by omega) (by decide))]
  have es : (nI s).toNatClampNeg = s := nkc (by omega)
  have hf2 : f_Mod_work n (R A_statementFrom (nI s).toNatClampNeg) (R A_statementTo (nI s).toNatClampNeg) R = some (v, R') := by rw [es]; exact hf
  rw [hf2, Option.bind_some]
  simp only [lt, es]
  rw [up_o (show A_statementAt ≠ MO by decide)]
theorem rl_e {n f x : Nat} {y : Int32} {R : IM} (hx : x < 602) (h : ¬ R MO 82 = 0) : l_Mod_rule_141 n (f + 1) (nI x) y R = some R := by
  rw [l_Mod_rule_141, chk_i (nki hx (by decide)), b_Mod_rule_290]
  split <;> first | rfl | rw [if_neg h]
set_option maxHeartbeats 2000000 in
theorem erule {A : AP} {p q n W m ko ro so co : Nat} {C0 R0 : IM} (ec : EC A p q n W m ko ro so co C0 R0) (hro : ro ≤ 301) (hso : so ≤ 300) : ∀ (d s : Nat) (C R : IM), s + d = aSf A (q + 1) → aSf A q ≤ s → RU A q W m C0 R0 s C R → ∃ C' R', (∀ f, (aCf A (aSf A (q + 1)) + aSf A (q + 1)) - (aCf A s + s) < f → l_Wrk_workOut_46 n W p m f (nI (aCf A (aSf A (q + 1)) + aSf A (q + 1))) (nI (aCf A s + s)) C = some C') ∧ (∀ f, d < f → l_Mod_rule_141 n f (nI (ro + q)) (nI (so + s)) R = some R') ∧ RT A q W m so C0 R0 C' R'
  | 0, s, C, R, hd, hs0, ru => by
    have hs : s = aSf A (q + 1) := by omega
    subst hs
    obtain ⟨hn, hm, hW, hp, wf, pc, pr, hco, hq, hN, hO, hc⟩ := id ec
    obtain ⟨fc, fr, h2, h1, h5, h82, pp, np, tq⟩ := ru
    have w1 := wf.1
    have w2 := wf.2.2.2.1
    have x2 := sfl wf (show q + 1 ≤ aNr A by omega)
    refine ⟨C, R, fun f hf => ?_, fun f hf => ?_, fc, fr, pp, np, fun j hj z => ((tq j hj).2 z).2, Or.inl ⟨h1, h82, h5, tq⟩⟩
    · obtain ⟨f', hf'⟩ : ∃ f', f = f' + 1 := ⟨f - 1, by omega⟩
      rw [hf', l_Wrk_workOut_46, if_pos (Int32.le_refl _)]
    · obtain ⟨f', hf'⟩ : ∃ f', f = f' + 1 := ⟨f - 1, by omega⟩
      have e : R A_ruleTo (ro + q) = nI (so + aSf A (q + 1)) := by rw [fr.1 A_ruleTo (by decide) (by decide) (by decide) (by decide)]; exact (pr.2.1 q hq).2.1
      rw [hf', l_Mod_rule_141, chk_i (nki (by omega) (by decide)), nkc (by omega), e, if_pos (Int32.le_refl _), b_Mod_rule_290]
  | d + 1, s, C, R, hd, hs0, ru => by
    obtain ⟨hn, hm, hW, hp, wf, pc, pr, hco, hq, hN, hO, hc⟩ := id ec
    obtain ⟨fc, fr, h2, h1, h5, h82, pp, np, tq⟩ := id ru
    have w := Wm_of hW hm
    have w' := w
    unfold Wm at w'
    have w1 := wf.1
    have w2 := wf.2.2.2.1
    have w3 := wf.2.2.2.2.2.2.1
    have x2 := sfl wf (show q + 1 ≤ aNr A by omega)
    have hs : s < aNs A := by omega
    have hsq : s < aSf A (q + 1) := by omega
    have y1 := cfl wf (show aSf A (q + 1) ≤ aNs A by omega)
    have y2 := wf.2.2.2.2.2.1 s hs
    have y3 := cfm wf (s := s + 1) d (by omega)
    rw [show s + 1 + d = aSf A (q + 1) by omega] at y3
    have hst : aCf A (aSf A (q + 1)) + aSf A (q + 1) ≤ 900 := by omega
    have hx : ro + q < 602 := by omega
    obtain ⟨dp, dp0, dp1, sok⟩ := wf.2.2.2.2.2.2.2.2.2.2 q hq s hs0 hsq
    obtain ⟨wd, hwd, ewd⟩ := wf.2.2.2.2.2.2.2.2.2.1 s hs
    have f1 : FRr R (up R MO 86 (nI 0)) := FRr_u (Or.inl (by omega))
    have ec1 : EC A p q n W m ko ro so co C (up R MO 86 (nI 0)) := EC_m ec fc (FRr_t fr f1) h1
    have es0 : ES W m (aNm A q) C (up R MO 86 (nI 0)) (dp (aCf A s)) C (up R MO 86 (nI 0)) := by
      rw [dp0]
      exact ⟨h2, up_self, fun j hj => absurd hj (by omega), ⟨fun _ _ _ _ _ _ => rfl, fun _ _ => rfl, fun _ _ => rfl⟩, ⟨fun _ _ _ _ _ => rfl, fun _ _ _ _ => rfl⟩, PP_c rfl rfl rfl (fu (by decide)) (fu (by decide)) (up_ne (Or.inr (by decide))) pp, fun _ => ⟨rfl, rfl, rfl, rfl, rfl, rfl⟩⟩
    have np1 : NP m C R C (up R MO 86 (nI 0)) := ⟨rfl, rfl, rfl, fu (by decide), fu (by decide), up_ne (Or.inr (by decide))⟩
    have e1 : R A_ruleTo (ro + q) = nI (so + aSf A (q + 1)) := by rw [fr.1 A_ruleTo (by decide) (by decide) (by decide) (by decide)]; exact (pr.2.1 q hq).2.1
    obtain ⟨ek, eF, eT⟩ := pr.2.2.1 s hs
    have eF' : R A_statementFrom (so + s) = nI (co + aCf A s) := by rw [fr.1 A_statementFrom (by decide) (by decide) (by decide) (by decide)]; exact eF
    have eT' : R A_statementTo (so + s) = nI (co + aCf A (s + 1)) := by rw [fr.1 A_statementTo (by decide) (by decide) (by decide) (by decide)]; exact eT
    have wk : f_Mod_work n (R A_statementFrom (so + s)) (R A_statementTo (so + s)) R = l_Mod_work_7 n n (nI (co + aCf A (s + 1))) (nI (co + aCf A s)) (up R MO 86 (nI 0)) := by
      rw [eF', eT']
      rfl
    have ek' : ∀ {R' : IM}, FRr (up R MO 86 (nI 0)) R' → R' A_statementKind (so + s) = nI (50 + wd) := fun {R'} h => by
      rw [h.1 A_statementKind (by decide) (by decide) (by decide) (by decide), fu (by decide), fr.1 A_statementKind (by decide) (by decide) (by decide) (by decide), ek, ewd]
    have pc1 := (ec1.2.2.2.2.2.1).2.1 s hs
    have n9 : nI (50 + wd) - 9 = nI (41 + wd) := by
      rw [show (9 : Int32) = nI 9 from rfl, nsb (by omega)]
      congr 1
      omega
    rw [ewd, n9] at pc1
    have r82 : up R MO 86 (nI 0) MO 82 = 0 := by rw [up_ne (Or.inr (by decide))]; exact h82
    rcases estat ec1 hs sok (aCf A (s + 1) - aCf A s) (aCf A s) C (up R MO 86 (nI 0)) (by omega) (by omega) (by omega) es0 r82 with ⟨C', R', e, he, es', hr', c', r'⟩ | ⟨t15, C', R', v, e, he, c', r', n4⟩
    · rw [dp1] at es'
      obtain ⟨i1, i2, i3, i4, i5, i6, i7⟩ := id es'
      have iv : C' (W + 2) 0 = R' A_stack 0 := i3 0 (by omega)
      have fc' := FCr_of w i4
      have fr' := FRr_of i5
      have c1 : C' (W + 1) 1 = 0 := by rw [FC_1 w i4]; exact h1
      have c5 : C' (W + 1) 5 = -1 := by rw [FC_1 w i4]; exact h5
      have cs : C' (p + 1) (aCf A (s + 1) + s) = nI (41 + wd) := by rw [FC_pol hp hW hm (show 1 < 7 by decide) i4]; exact pc1.1
      have cx : C' (p + 2) (aCf A (s + 1) + s) = aSa A s := by rw [FC_pol hp hW hm (show 2 < 7 by decide) i4]; exact pc1.2
      have wk' : f_Mod_work n (R A_statementFrom (so + s)) (R A_statementTo (so + s)) R = some (R' A_stack 0, R') := by
        rw [wk, r' n (by omega), b_Mod_work_186, i2, if_neg (by decide), show nI 1 - 1 = nI 0 from rfl, chk_i (by decide), b_Mod_work_208]
        rfl
      have np' : ¬ tbi (aNm A q) 15 → NP m C0 R0 C' R' := fun z => NP_t (np z) (NP_t np1 (i7 z))
      have fcA : FCr W m C0 C' := FCr_t fc fc'
      have frA : FRr R0 R' := FRr_t fr (FRr_t f1 fr')
      have kk := ek' fr'
      -- the statement's word
      by_cases w0 : wd = 0
      · subst w0
        have cs' : C' (p + 1) (aCf A (s + 1) + s) = 41 := cs
        have kk' : R' A_statementKind (so + s) = 50 := kk
        by_cases v0 : R' A_stack 0 = 0
        · obtain ⟨D, dE, z1, z2, z3, z4, z5⟩ := cc_v (n := n) (W := W) (p := p) (m := m) hn cs' cx (show _ < aCf A (aSf A (q + 1)) + aSf A (q + 1) by omega) hst i1 (iv.trans v0)
          obtain ⟨y, ye⟩ : ∃ y : Int32, y = if so + s < 300 then R' A_statementAt (so + s) else -1 := ⟨_, rfl⟩
          refine ⟨D, up (up R' MO 82 3) MO 68 y, fun f hf => ?_, fun f hf => ?_, FCr_t fcA ⟨fun b q1 q2 q3 _ _ _ => z1 b q1 q2, fun j _ => by rw [z1 (m + 13) (by omega) (by omega)], z5⟩, FRr_t frA (FRr_t (FRr_u (Or.inl (by omega))) (FRr_u (Or.inr (Or.inl rfl)))), PP_c (z1 _ (by omega) (by omega)) (z1 _ (by omega) (by omega)) (z1 _ (by omega) (by omega)) (by rw [fu (by decide), fu (by decide)]) (by rw [fu (by decide), fu (by decide)]) (by rw [up_ne (Or.inr (by decide)), up_ne (Or.inr (by decide))]) i6, fun z => NP_c (z1 _ (by omega) (by omega)) (z1 _ (by omega) (by omega)) (z1 _ (by omega) (by omega)) (by rw [fu (by decide), fu (by decide)]) (by rw [fu (by decide), fu (by decide)]) (by rw [up_ne (Or.inr (by decide)), up_ne (Or.inr (by decide))]) (np' z), fun j hj z => ?_, Or.inr (Or.inl ⟨z2, by rw [up_ne (Or.inr (by decide)), up_self], fun j hj => z4 _ (by omega) (by omega), s, hs0, hsq, z3, fun so0 => ?_⟩)⟩
          · obtain ⟨f', hf'⟩ : ∃ f', f = f' + 1 + e := ⟨f - 1 - e, by omega⟩
            rw [hf', c' (f' + 1) _ (by omega) hst, dE f']
          · obtain ⟨f', hf'⟩ : ∃ f', f = f' + 1 + 1 := ⟨f - 2, by omega⟩
            have e224 : ∀ k : Int32, b_Mod_rule_224 n (l_Mod_rule_141 n (f' + 1)) (nI (ro + q)) (nI (so + s)) (R' A_stack 0) (R' A_statementKind (so + s)) k (up R' MO 82 3) = some (up (up R' MO 82 3) MO 68 k) := by
              intro k
              rw [b_Mod_rule_224, lt, kk, r227 hwd, if_pos rfl, rl_e hx]
              rw [up_ne (Or.inr (by decide)), up_self]
              decide
            rw [hf', rl_w hx e1 (by omega) (by omega) h82 wk', if_pos hr', if_pos kk', if_pos v0, ye]
            by_cases z : so + s < 300
            · rw [if_neg (show ¬ (300 : Int32) ≤ nI (so + s) from nk (N := 300) z (by decide)), chk_i (nki z (by decide)), e224, if_pos z]
            · rw [if_pos (show (300 : Int32) ≤ nI (so + s) from (nle (a := 300) (by decide) (by omega)).mpr (by omega)), e224, if_neg z]
          · rw [up_ne (Or.inr (by omega)), up_ne (Or.inr (by omega)), i5.2 (83 + j) (by omega) (by omega) (by omega), up_ne (Or.inr (by omega))]
            exact ((tq j hj).2 (fun ⟨y, y4, y5, y6⟩ => z ⟨y, y4, by omega, y6⟩)).2
          · subst so0
            rw [up_self, ye, if_pos (by omega), Nat.zero_add, frA.1 A_statementAt (by decide) (by decide) (by decide) (by decide)]
        · have ru' : RU A q W m C0 R0 (s + 1) (up C' W 2 (nI 0)) R' := by
            refine ⟨FCr_t fcA (FCr_h w), frA, up_self, by rw [up_o (by omega)]; exact c1, by rw [up_o (by omega)]; exact c5, hr', PP_c (fu (by omega)) (fu (by omega)) (fu (by omega)) rfl rfl rfl i6, fun z => NP_c (fu (by omega)) (fu (by omega)) (fu (by omega)) rfl rfl rfl (np' z), fun j hj => ?_⟩
            have same : (∃ z, aSf A q ≤ z ∧ z < s + 1 ∧ aSk A z = nI (51 + j)) ↔ ∃ z, aSf A q ≤ z ∧ z < s ∧ aSk A z = nI (51 + j) := by
              refine ⟨fun ⟨z, a, b, c⟩ => ⟨z, a, ?_, c⟩, fun ⟨z, a, b, c⟩ => ⟨z, a, by omega, c⟩⟩
              by_cases zs : z = s
              · subst zs
                rw [ewd] at c
                have := nij (by omega) (by omega) c
                omega
              · omega
            rw [same, up_o (show W + 1 ≠ W by omega), FC_1 w i4, i5.2 (83 + j) (by omega) (by omega) (by omega), up_ne (Or.inr (by omega))]
            exact tq j hj
          obtain ⟨Ce, Re, k1, k2, k3⟩ := erule ec hro hso d (s + 1) _ _ (by omega) (by omega) ru'
          refine ⟨Ce, Re, fun f hf => ?_, fun f hf => ?_, k3⟩
          · obtain ⟨f', hf'⟩ : ∃ f', f = f' + 1 + e := ⟨f - 1 - e, by omega⟩
            rw [hf', c' (f' + 1) _ (by omega) hst, cc_n cs' cx (by omega) hst i1 c1 (by rw [iv]; exact v0), show aCf A (s + 1) + s + 1 = aCf A (s + 1) + (s + 1) from rfl, k1 f' (by omega)]
          · obtain ⟨f', hf'⟩ : ∃ f', f = f' + 1 := ⟨f - 1, by omega⟩
            rw [hf', rl_w hx e1 (by omega) (by omega) h82 wk', if_pos hr', if_pos kk', if_neg v0, kk, r227 hwd, if_pos rfl, nk1, show so + s + 1 = so + (s + 1) from rfl, k2 f' (by omega)]
      · have ru' : RU A q W m C0 R0 (s + 1) (up (up C' W 2 (nI 0)) (W + 1) (1 + wd) (C' (W + 2) 0)) (up R' MO (82 + wd) (R' A_stack 0)) := by
          have fc2 : FCr W m C' (up (up C' W 2 (nI 0)) (W + 1) (1 + wd) (C' (W + 2) 0)) := FCr_t (FCr_h w) (FCr_r w (by omega) (by omega))
          have zz : ∀ b, b ≠ W → b ≠ W + 1 → up (up C' W 2 (nI 0)) (W + 1) (1 + wd) (C' (W + 2) 0) b = C' b := fun b q1 q2 => by rw [fu q2, fu q1]
          refine ⟨FCr_t fcA fc2, FRr_t frA (FRr_u (Or.inl (by omega))), by rw [up_o (by omega), up_self], by rw [up_ne (Or.inr (by omega)), up_o (by omega)]; exact c1, by rw [up_ne (Or.inr (by omega)), up_o (by omega)]; exact c5, by rw [up_ne (Or.inr (by omega))]; exact hr', PP_c (zz _ (by omega) (by omega)) (zz _ (by omega) (by omega)) (zz _ (by omega) (by omega)) (fu (by decide)) (fu (by decide)) (up_ne (Or.inr (by omega))) i6, fun z => NP_c (zz _ (by omega) (by omega)) (zz _ (by omega) (by omega)) (zz _ (by omega) (by omega)) (fu (by decide)) (fu (by decide)) (up_ne (Or.inr (by omega))) (np' z), fun j hj => ?_⟩
          by_cases jw : j + 1 = wd
          · have tol : ∃ z, aSf A q ≤ z ∧ z < s + 1 ∧ aSk A z = nI (51 + j) := ⟨s, hs0, by omega, by rw [ewd]; congr 1; omega⟩
            refine ⟨fun _ => ?_, fun z => absurd tol z⟩
            rw [show 2 + j = 1 + wd by omega, show 83 + j = 82 + wd by omega, up_self, up_self]
            exact iv
          · have same : (∃ z, aSf A q ≤ z ∧ z < s + 1 ∧ aSk A z = nI (51 + j)) ↔ ∃ z, aSf A q ≤ z ∧ z < s ∧ aSk A z = nI (51 + j) := by
              refine ⟨fun ⟨z, a, b, c⟩ => ⟨z, a, ?_, c⟩, fun ⟨z, a, b, c⟩ => ⟨z, a, by omega, c⟩⟩
              by_cases zs : z = s
              · subst zs
                rw [ewd] at c
                have := nij (by omega) (by omega) c
                omega
              · omega
            rw [same, up_ne (Or.inr (by omega)), up_o (show W + 1 ≠ W by omega), FC_1 w i4, up_ne (Or.inr (by omega)), i5.2 (83 + j) (by omega) (by omega) (by omega), up_ne (Or.inr (by omega))]
            exact tq j hj
        obtain ⟨Ce, Re, k1, k2, k3⟩ := erule ec hro hso d (s + 1) _ _ (by omega) (by omega) ru'
        have n50 : ¬ R' A_statementKind (so + s) = 50 := by
          rw [kk]
          exact fun z => by have := nij (b := 50) (by omega) (by decide) z; omega
        refine ⟨Ce, Re, fun f hf => ?_, fun f hf => ?_, k3⟩
        · obtain ⟨f', hf'⟩ : ∃ f', f = f' + 1 + e := ⟨f - 1 - e, by omega⟩
          rw [hf', c' (f' + 1) _ (by omega) hst, cc_t cs cx (by omega) hst (by omega) hwd i1 c1, show aCf A (s + 1) + s + 1 = aCf A (s + 1) + (s + 1) from rfl, k1 f' (by omega)]
        · obtain ⟨f', hf'⟩ : ∃ f', f = f' + 1 := ⟨f - 1, by omega⟩
          rw [hf', rl_w hx e1 (by omega) (by omega) h82 wk', if_pos hr', if_neg n50, kk, r227 hwd, if_neg w0, nk1, show so + s + 1 = so + (s + 1) from rfl, k2 f' (by omega)]
    · obtain ⟨fc', a1, a5, a2, fr', a82, app, n83⟩ := n4
      have kk := ek' fr'
      have wk' : f_Mod_work n (R A_statementFrom (so + s)) (R A_statementTo (so + s)) R = some (v, R') := by rw [wk, r' n (by omega)]
      have b82 : (if wd = 0 then R' else up R' MO (82 + wd) v) MO 82 = 4 := by
        by_cases w0 : wd = 0
        · rw [if_pos w0]; exact a82
        · rw [if_neg w0, up_ne (Or.inr (by omega))]; exact a82
      have fr2 : FRr R' (if wd = 0 then R' else up R' MO (82 + wd) v) := by
        by_cases w0 : wd = 0
        · rw [if_pos w0]; exact FRr_0
        · rw [if_neg w0]; exact FRr_u (Or.inl (by omega))
      have pp2 : PP m C' (if wd = 0 then R' else up R' MO (82 + wd) v) := by
        by_cases w0 : wd = 0
        · rw [if_pos w0]; exact app
        · rw [if_neg w0]; exact PP_c rfl rfl rfl (fu (by decide)) (fu (by decide)) (up_ne (Or.inr (by omega))) app
      refine ⟨C', if wd = 0 then R' else up R' MO (82 + wd) v, fun f hf => ?_, fun f hf => ?_, FCr_t fc fc', FRr_t fr (FRr_t f1 (FRr_t fr' fr2)), pp2, fun z => absurd t15 z, fun j hj z => ?_, Or.inr (Or.inr ⟨t15, a1, b82, a5⟩)⟩
      · obtain ⟨f', hf'⟩ : ∃ f', f = f' + e := ⟨f - e, by omega⟩
        rw [hf', c' f' _ (by omega) hst]
      · obtain ⟨f', hf'⟩ : ∃ f', f = f' + 1 + 1 := ⟨f - 2, by omega⟩
        rw [hf', rl_w hx e1 (by omega) (by omega) h82 wk', if_neg (by rw [a82]; decide), kk, r227 hwd, rl_e hx (by rw [b82]; decide)]
      · have nw : ¬ (wd = j + 1) := fun q0 => z ⟨s, hs0, hsq, by rw [ewd, q0]; congr 1; omega⟩
        have x83 : (if wd = 0 then R' else up R' MO (82 + wd) v) MO (83 + j) = R' MO (83 + j) := by
          by_cases w0 : wd = 0
          · rw [if_pos w0]
          · rw [if_neg w0, up_ne (Or.inr (by omega))]
        rw [x83, n83 j hj, up_ne (Or.inr (by omega))]
        exact ((tq j hj).2 (fun ⟨y, y4, y5, y6⟩ => z ⟨y, y4, by omega, y6⟩)).2
