/-! workOut against rule -/
theorem hasR {A : AP} {p k q : Nat} {C : IM} (wf : WF A) (pc : PC A p C) (hk : k < 22) (hq : q < aNr A) (e : aRo A k = nI q) : f_Pol_hasRule p (nI k) C = some 1 := by
  have g := (wf.2.2.2.2.2.2.2.2.1 q hq).1
  have h5 := ((pc.1 k hk).2 q hq e).1
  rw [f_Pol_hasRule, if_neg (show ¬ nI k < 0 from fun z => by have := (nlt (b := 0) (by omega) (by decide)).mp z; omega), if_neg (show ¬ (22 : Int32) ≤ nI k from nk (N := 22) hk (by decide)), chk_i (nki hk (by decide)), nkc (by omega), h5, if_neg (fun z => by rw [z] at g; exact absurd g (by decide))]
theorem mn9 {x : Nat} (h : x ≤ 900) : minI (nI x) 900 = nI x := by
  unfold minI
  rw [if_neg (show ¬ (900 : Int32) < nI x from fun z => by have := (nlt (a := 900) (by decide) (by omega)).mp z; omega)]
theorem mx0 {x : Nat} (h : x ≤ 900) : maxI (nI x) 0 = nI x := by
  unfold maxI
  rw [if_neg (show ¬ nI x < 0 from fun z => by have := (nlt (b := 0) (by omega) (by decide)).mp z; omega)]
def dfl (dt dn dw : Int32) (j : Nat) : Int32 := if j = 0 then dt else if j = 1 then dn else dw
/-- how a rule that was worked out ends, on both sides; d: what it leaves untold -/
def RE (A : AP) (q W m so : Nat) (d : Nat → Int32) (C0 R0 C R : IM) : Prop := FCr W m C0 C ∧ FRr R0 R ∧ PP m C R ∧ (¬ tbi (aNm A q) 15 → NP m C0 R0 C R) ∧ (∀ j, j < 3 → ¬ aTe A q (51 + j) → R MO (83 + j) = d j) ∧ ((C (W + 1) 1 = 0 ∧ R MO 82 = 0 ∧ C (W + 1) 5 = -1 ∧ ∀ j, j < 3 → (aTe A q (51 + j) → C (W + 1) (2 + j) = R MO (83 + j)) ∧ (¬ aTe A q (51 + j) → C (W + 1) (2 + j) = 0 ∧ R MO (83 + j) = d j)) ∨ (C (W + 1) 1 = 3 ∧ R MO 82 = 3 ∧ (∀ j, j < 3 → C (W + 1) (2 + j) = 0) ∧ ∃ s, aSf A q ≤ s ∧ s < aSf A (q + 1) ∧ C (W + 1) 5 = aSa A s ∧ (so = 0 → R MO 68 = R0 A_statementAt s)) ∨ (tbi (aNm A q) 15 ∧ C (W + 1) 1 = 4 ∧ R MO 82 = 4 ∧ C (W + 1) 5 = -1))
/-- what a rule is worked out in -/
def EB (A : AP) (p q n W m ko ro so co : Nat) (C R : IM) : Prop := 1000 ≤ n ∧ isMch m ∧ isWrk W ∧ isPol p ∧ WF A ∧ PC A p C ∧ PR A ko ro so co R ∧ co ≤ 1000 ∧ q < aNr A ∧ (∀ k, k < 15 → tbi (aNm A q) k → f_Mod_nameValue (nI k) R = some (C (W + 1) (10 + k))) ∧ (∀ k, k < 96 → C (m + 5) k = R A_owners k) ∧ ro ≤ 301 ∧ so ≤ 300 ∧ PP m C R
set_option maxHeartbeats 1000000 in
theorem ework {A : AP} {p q n W m ko ro so co k : Nat} {C R : IM} {dt dn dw : Int32} (eb : EB A p q n W m ko ro so co C R) (hk : k < 22) (e : aRo A k = nI q) (hR : f_Mod_rule n (nI (ro + q)) R = l_Mod_rule_141 n n (nI (ro + q)) (R A_ruleFrom (ro + q)) (up (up (up (up R MO 82 0) MO 83 dt) MO 84 dn) MO 85 dw)) : ∃ C' R', f_Wrk_workOut n W p (nI k) m C = some C' ∧ f_Mod_rule n (nI (ro + q)) R = some R' ∧ RE A q W m so (dfl dt dn dw) C R C' R' := by
  obtain ⟨hn, hm, hW, hp, wf, pc, pr, hco, hq, hN, hO, hro, hso, pp⟩ := eb
  have w := Wm_of hW hm
  have w' := w
  unfold Wm at w'
  obtain ⟨C1, g1, a1, a2, a3, a4⟩ := fgt (n := n) (W := W) (C := C) hn
  obtain ⟨R0, hR0⟩ : ∃ z, z = up (up (up (up R MO 82 0) MO 83 dt) MO 84 dn) MO 85 dw := ⟨_, rfl⟩
  have fr : FRr R R0 := by
    rw [hR0]
    exact FRr_t (FRr_u (Or.inl (by omega))) (FRr_t (FRr_u (Or.inl (by omega))) (FRr_t (FRr_u (Or.inl (by omega))) (FRr_u (Or.inl (by omega)))))
  have fc1 : FCr W m C C1 := ⟨fun b _ q2 _ _ _ _ => a1 b q2, fun j _ => by rw [a1 (m + 13) (by omega)], a4⟩
  have fc : FCr W m C (up C1 W 2 (nI 0)) := FCr_t fc1 (FCr_h w)
  have polc : ∀ j, j < 7 → C1 (p + j) = C (p + j) := fun j hj => by
    obtain ⟨b1, b2, b3, b4⟩ := polap hp hW hm hj
    exact a1 _ b2
  have pc1 : PC A p C1 := PC_c polc pc
  have ec : EC A p q n W m ko ro so co (up C1 W 2 (nI 0)) R0 := by
    refine ⟨hn, hm, hW, hp, wf, PC_c (fun j hj => ?_) pc1, PR_c (fr.1 _ (by decide) (by decide) (by decide) (by decide)) (fr.1 _ (by decide) (by decide) (by decide) (by decide)) (fr.1 _ (by decide) (by decide) (by decide) (by decide)) (fr.1 _ (by decide) (by decide) (by decide) (by decide)) (fr.1 _ (by decide) (by decide) (by decide) (by decide)) (fr.1 _ (by decide) (by decide) (by decide) (by decide)) (fr.1 _ (by decide) (by decide) (by decide) (by decide)) (fr.1 _ (by decide) (by decide) (by decide) (by decide)) (fr.1 _ (by decide) (by decide) (by decide) (by decide)) pr, hco, hq, fun k hk tk => ?_, fun k hk => ?_, ?_⟩
    · obtain ⟨b1, b2, b3, b4⟩ := polap hp hW hm hj
      exact fu b1
    · rw [nv_r fr, fc.2.2 _ (Or.inr (by omega))]
      exact hN k hk tk
    · rw [fc.1 (m + 5) (by omega) (by omega) (by omega) (by omega) (by omega) (by omega), fr.1 A_owners (by decide) (by decide) (by decide) (by decide)]
      exact hO k hk
    · rw [up_o (by omega)]
      exact a3 1 (by omega) (by omega) (by omega)
  have x1 := wf.2.2.1 q hq
  have x2 := sfl wf (show q + 1 ≤ aNr A by omega)
  have y1 := cfl wf (show aSf A (q + 1) ≤ aNs A by omega)
  have y0 := cfm wf (s := aSf A q) (aSf A (q + 1) - aSf A q) (by omega)
  rw [show aSf A q + (aSf A (q + 1) - aSf A q) = aSf A (q + 1) by omega] at y0
  have w3 := wf.2.2.2.2.2.2.1
  have np0 : NP m C R (up C1 W 2 (nI 0)) R0 := by
    refine ⟨?_, ?_, ?_, ?_, ?_, ?_⟩
    · rw [fu (by omega), a1 _ (by omega)]
    · rw [fu (by omega), a1 _ (by omega)]
    · rw [fu (by omega), a1 _ (by omega)]
    · rw [hR0, fu (by decide), fu (by decide), fu (by decide), fu (by decide)]
    · rw [hR0, fu (by decide), fu (by decide), fu (by decide), fu (by decide)]
    · rw [hR0, up_ne (Or.inr (by decide)), up_ne (Or.inr (by decide)), up_ne (Or.inr (by decide)), up_ne (Or.inr (by decide))]
  have pp0 : PP m (up C1 W 2 (nI 0)) R0 := PP_c np0.1 np0.2.1 np0.2.2.1 np0.2.2.2.1 np0.2.2.2.2.1 np0.2.2.2.2.2 pp
  have ru : RU A q W m (up C1 W 2 (nI 0)) R0 (aSf A q) (up C1 W 2 (nI 0)) R0 := by
    refine ⟨FCr_0, FRr_0, up_self, ?_, ?_, ?_, pp0, fun _ => ⟨rfl, rfl, rfl, rfl, rfl, rfl⟩, fun j hj => ⟨fun ⟨z, c1, c2, _⟩ => by omega, fun _ => ⟨?_, rfl⟩⟩⟩
    · rw [up_o (by omega)]; exact a3 1 (by omega) (by omega) (by omega)
    · rw [up_o (by omega)]; exact a2
    · rw [hR0, up_ne (Or.inr (by decide)), up_ne (Or.inr (by decide)), up_ne (Or.inr (by decide)), up_self]
    · rw [up_o (by omega)]; exact a3 _ (by omega) (by omega) (by omega)
  obtain ⟨C', R', k1, k2, t1, t2, t3, t4, t6, t5⟩ := erule ec hro hso (aSf A (q + 1) - aSf A q) (aSf A q) _ _ (by omega) (by omega) ru
  have h345 := (pc1.1 k hk).2 q hq e
  have d83 : ∀ j, j < 3 → R0 MO (83 + j) = dfl dt dn dw j := by
    intro j hj
    have : j = 0 ∨ j = 1 ∨ j = 2 := by omega
    rw [hR0]
    rcases this with rfl | rfl | rfl
    · rw [up_ne (Or.inr (by decide)), up_ne (Or.inr (by decide)), up_self]; rfl
    · rw [up_ne (Or.inr (by decide)), up_self]; rfl
    · rw [up_self]; rfl
  refine ⟨C', R', ?_, ?_, FCr_t fc t1, FRr_t fr t2, t3, fun z => NP_t np0 (t4 z), fun j hj z => (t6 j hj z).trans (d83 j hj), ?_⟩
  · rw [f_Wrk_workOut, g1, Option.bind_some, hasR wf pc1 hk hq e, Option.bind_some, if_neg (by decide), lt, chk_i (nki hk (by decide)), nkc (by omega)]
    obtain ⟨b1, b2, b3, b4⟩ := polap hp hW hm (show 3 < 7 by decide)
    obtain ⟨b5, b6, b7, b8⟩ := polap hp hW hm (show 4 < 7 by decide)
    rw [up_o b1, up_o b5, h345.2.1, h345.2.2.1, mn9 (by omega), mx0 (by omega)]
    exact k1 n (by omega)
  · rw [hR, (pr.2.1 q hq).1, ← hR0]
    exact k2 n (by have := wf.2.2.2.1; omega)
  · rcases t5 with ⟨c1, c2, c3, c4⟩ | ⟨c1, c2, c3, s, c4, c5, c6, c7⟩ | c
    · refine Or.inl ⟨c1, c2, c3, fun j hj => ⟨(c4 j hj).1, fun z => ?_⟩⟩
      rw [← d83 j hj]
      exact (c4 j hj).2 z
    · refine Or.inr (Or.inl ⟨c1, c2, c3, s, c4, c5, c6, fun z => ?_⟩)
      rw [c7 z, fr.1 A_statementAt (by decide) (by decide) (by decide) (by decide)]
    · exact Or.inr (Or.inr c)
/-- rule's beginning: what is untold -/
theorem rule_0 {n : Nat} {x : Int32} {R : IM} {dt dw : Int32} (h69 : R MO 69 = 0) (hx : inb x 602) (h1 : (R MO 75 = 21 → inb (R MO 76) 8 ∧ dt = R A_registerTags (R MO 76).toNatClampNeg) ∧ (¬ R MO 75 = 21 → dt = 0)) (h2 : (R MO 75 = 12 → ¬ R MO 81 = 0 → inb (R MO 80) 96 ∧ dw = R A_owners (R MO 80).toNatClampNeg) ∧ ((¬ R MO 75 = 12 ∨ R MO 81 = 0) → dw = 0)) : f_Mod_rule n x R = l_Mod_rule_141 n n x (R A_ruleFrom x.toNatClampNeg) (up (up (up (up R MO 82 0) MO 83 dt) MO 84 (R MO 43)) MO 85 dw) := by
  have e35 : ∀ y, b_Mod_rule_35 n x y (up R MO 82 0) = l_Mod_rule_141 n n x (R A_ruleFrom x.toNatClampNeg) (up (up (up (up R MO 82 0) MO 83 y) MO 84 (R MO 43)) MO 85 dw) := by
    intro y
    have e131 : ∀ z, b_Mod_rule_131 n x z (up (up (up R MO 82 0) MO 83 y) MO 84 (R MO 43)) = l_Mod_rule_141 n n x (R A_ruleFrom x.toNatClampNeg) (up (up (up (up R MO 82 0) MO 83 y) MO 84 (R MO 43)) MO 85 z) := by
      intro z
      rw [b_Mod_rule_131, lt, chk_i hx, up_o (by decide), up_o (by decide), up_o (by decide), up_o (by decide)]
    have m : ∀ j, j ≠ 82 → j ≠ 83 → j ≠ 84 → up (up (up R MO 82 0) MO 83 y) MO 84 (R MO 43) MO j = R MO j := fun j q1 q2 q3 => by
      rw [up_ne (Or.inr q3), up_ne (Or.inr q2), up_ne (Or.inr q1)]
    rw [b_Mod_rule_35, lt, up_ne (Or.inr (show 69 ≠ 83 by decide)), up_ne (Or.inr (show 69 ≠ 82 by decide)), h69, if_pos rfl, up_ne (Or.inr (show 43 ≠ 83 by decide)), up_ne (Or.inr (show 43 ≠ 82 by decide)), b_Mod_rule_59, lt, m 69 (by decide) (by decide) (by decide), h69, if_pos rfl, m 75 (by decide) (by decide) (by decide), m 81 (by decide) (by decide) (by decide), m 80 (by decide) (by decide) (by decide)]
    by_cases c19 : R MO 75 = 19
    · have : dw = 0 := h2.2 (Or.inl (by rw [c19]; decide))
      rw [if_pos c19, b_Mod_rule_98, e131, this]
    by_cases c20 : R MO 75 = 20
    · have : dw = 0 := h2.2 (Or.inl (by rw [c20]; decide))
      rw [if_neg c19, if_pos c20, b_Mod_rule_98, e131, this]
    rw [if_neg c19, if_neg c20]
    by_cases c81 : R MO 81 = 0
    · rw [if_pos c81, b_Mod_rule_130, e131, h2.2 (Or.inr c81)]
    rw [if_neg c81]
    by_cases c12 : R MO 75 = 12
    · obtain ⟨i1, i2⟩ := h2.1 c12 c81
      rw [if_pos c12, chk_i i1, e131, up_o (by decide), up_o (by decide), up_o (by decide), i2]
    · rw [if_neg c12, b_Mod_rule_130, e131, h2.2 (Or.inl c12)]
  rw [f_Mod_rule, lt, up_ne (Or.inr (show 69 ≠ 82 by decide)), h69, if_pos rfl, up_ne (Or.inr (show 75 ≠ 82 by decide)), up_ne (Or.inr (show 76 ≠ 82 by decide))]
  by_cases c21 : R MO 75 = 21
  · obtain ⟨i1, i2⟩ := h1.1 c21
    rw [if_pos c21, chk_i i1, up_o (by decide), ← i2, e35]
  · rw [if_neg c21, b_Mod_rule_34, e35, h1.2 c21]
