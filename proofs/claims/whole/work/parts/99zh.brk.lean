/-! policy: what ends an expression; brackets -/
abbrev tS (t : Nat) : Prop := t = 252 ∨ t = 166 ∨ t = 222 ∨ t = 171 ∨ t = 173
abbrev tQ (t : Nat) : Prop := t = 317 ∨ t = 289 ∨ t = 188 ∨ t = 316
theorem tsF : ∀ t ∈ VL, t ≠ 102 → (bS (nI (m2r t) - 400) ↔ tS t) := by decide +kernel
theorem ts_i {T : Nat → Int32} {N k : Nat} {R : IM} (vt : VT T N) (rb : RB T N k R) : bS (R MO 10 - 400) ↔ tS (tC T N k) := rTest (P := fun x => bS (x - 400)) (Q := tS) vt rb tsF (by decide)
theorem sg6 : ∀ s ∈ sgL, ∀ t ∈ VL, t ≠ 102 → (nI (m2r t) - 400 = nI s ↔ t = 128 + s) := by decide +kernel
theorem sg7 : ∀ s ∈ sgL, ¬ (201 : Int32) - 400 = nI s ∧ ¬ (69 : Int32) - 400 = nI s ∧ ¬ 102 = 128 + s := by decide +kernel
theorem sub4 {T : Nat → Int32} {N k s : Nat} {R : IM} (vt : VT T N) (rb : RB T N k R) (hs : s ∈ sgL) : R MO 10 - 400 = nI s ↔ tC T N k = 128 + s := rTest (P := fun x => x - 400 = nI s) (Q := fun t => t = 128 + s) vt rb (sg6 s hs) (sg7 s hs)
theorem t317 {T : Nat → Int32} {N k : Nat} {R : IM} (vt : VT T N) (rb : RB T N k R) : (R MO 10 = 202 ↔ tC T N k = 317) ∧ (R MO 10 = 203 ↔ tC T N k = 289) ∧ (R MO 10 = 204 ↔ tC T N k = 316) := ⟨tkE (w := 317) vt rb.2.1 (by decide) (by decide), tkE (w := 289) vt rb.2.1 (by decide) (by decide), tkE (w := 316) vt rb.2.1 (by decide) (by decide)⟩
/-- an operator, behind the end of the expression -/
def opT (n : Nat) (J : JM) (s x : Int32) (v9 : IM) : Option (Int32 × IM) := if s = (58 : Int32) then (if x = (63 : Int32) then (chk (inb ((v9 MO 29) - 1) 1000) <| chk (inb (v9 A_pileAt ((v9 MO 29) - 1 : Int32).toNatClampNeg) 2000) <| lt (up v9 A_codeValue (v9 A_pileAt ((v9 MO 29) - 1 : Int32).toNatClampNeg : Int32).toNatClampNeg ((v9 MO 15) + 1)) fun I17 => chk (inb ((I17 MO 29) - 1) 1000) <| lt (up I17 A_pile ((I17 MO 29) - 1 : Int32).toNatClampNeg (58)) fun I19 => chk (inb ((I19 MO 29) - 1) 1000) <| lt (up I19 A_pileAt ((I19 MO 29) - 1 : Int32).toNatClampNeg (I19 MO 15)) fun I21 => Option.bind (f_Mod_emit  302 0 I21) fun v22 => Option.bind (f_Mod_step n J v22) fun v24 => some (1, v24)) else (b_Mod_operator_238 n J  s x v9)) else (b_Mod_operator_238 n J  s x v9)
theorem opE {T : Nat → Int32} {N n k : Nat} {J : JM} {R : IM} (vt : VT T N) (rb : RB T N k R) (h1 : ¬ tS (tC T N k)) (h2 : ¬ tQ (tC T N k)) (h3 : tC T N k ≠ 191) : f_Mod_operator n J R = Option.bind (f_Mod_endExpression n R) fun v9 => Option.bind (f_Mod_topOf v9) fun v11 => opT n J (R MO 10 - 400) v11 v9 := by
  obtain ⟨e1, e2, e3⟩ := t317 vt rb
  have e4 : ¬ R MO 10 - 400 = 60 := fun y => h2 (Or.inr (Or.inr (Or.inl ((sub4 (s := 60) vt rb (by decide)).mp y))))
  have e5 : ¬ R MO 10 - 400 = 63 := fun y => h3 ((sub4 (s := 63) vt rb (by decide)).mp y)
  unfold opT
  rw [f_Mod_operator, isS_0 (fun y => h1 ((ts_i vt rb).mp y)), Option.bind_some, if_pos rfl, if_neg (fun y => h2 (Or.inl (e1.mp y))), if_neg (fun y => h2 (Or.inr (Or.inl (e2.mp y)))), if_neg (fun y => h2 (Or.inr (Or.inr (Or.inr (e3.mp y))))), if_neg e4, if_neg e5]
/-- what reading an expression comes to, of the reference -/
def EO (T : Nat → Int32) (N n : Nat) (J : JM) (k k' o p c q : Nat) (ds : List CIt) (m : Int32) (R : IM) : Prop := ∃ (s w : Nat) (R' R1 R2 : IM), s + k ≤ k' ∧ w + k ≤ k' ∧ (∀ f, l_Mod_expression_12 n J (f + s) 1 R = l_Mod_expression_12 n J f 2 R') ∧ RB T N k' R' ∧ R' MO 14 = -1 ∧ f_Mod_endParts R' = some R1 ∧ (∀ f, l_Mod_endExpression_4 n (f + w) R1 = l_Mod_endExpression_4 n f R2) ∧ RQ T N k' o p (c + ds.length) q R2 ∧ RZ p c q ds m R R2 ∧ (tQ (tC T N k') → ∃ R3, f_Mod_operator n J R' = some (0, R3) ∧ R3 MO 14 = nI (tP T N k') ∧ RFq q R R3)
theorem eo_end {T : Nat → Int32} {N n k' o p c q w : Nat} {R' R1 R2 : IM} (hn : 1000 ≤ n) (hw : w ≤ 900) (hp : p ≤ 1000) (h1 : f_Mod_endParts R' = some R1) (h2 : ∀ f, l_Mod_endExpression_4 n (f + w) R1 = l_Mod_endExpression_4 n f R2) (h3 : RQ T N k' o p c q R2) (h4 : tpR R2 p ≠ 58) : f_Mod_endExpression n R' = some R2 ∧ f_Mod_topOf R2 = some (tpR R2 p) := by
  have tp := top_f h3.2.2.2.1 hp
  obtain ⟨g, hg⟩ : ∃ g, n = g + 1 + w := ⟨n - w - 1, by omega⟩
  refine ⟨?_, tp⟩
  have e : l_Mod_endExpression_4 n n R1 = l_Mod_endExpression_4 n (g + 1 + w) R1 := congrArg (fun z => l_Mod_endExpression_4 n z R1) hg
  rw [f_Mod_endExpression, h1, Option.bind_some, e, h2, l_Mod_endExpression_4, tp, Option.bind_some, if_neg h4]
theorem b425 {T : Nat → Int32} {N n k o p c q : Nat} {J : JM} {s : Int32} {R : IM} (h : RQ T N k o p c q R) (hp : p < 1000) (hs : ¬ (p = 0 ∧ s = 59)) : b_Mod_operator_425 n J s R = some (0, up R MO 14 (nI (tP T N k))) := by
  have e : b_Mod_operator_438 n J R = some (0, up R MO 14 (nI (tP T N k))) := by
    rw [b_Mod_operator_438, rFl h.1 h.2.1, Option.bind_some, b_Mod_operator_442]
  rw [b_Mod_operator_425, h.2.2.2.1]
  by_cases z : p = 0
  · rw [if_neg (by rw [z]; decide), if_neg (fun y => hs ⟨z, y⟩), e]
  · rw [if_pos (show (0 : Int32) < nI p from (nlt (a := 0) (by decide) (by omega)).mpr (by omega)), e]
theorem b238F {n : Nat} {J : JM} {s x : Int32} {R : IM} (h1 : ¬ (s = 44 ∧ x = 760)) (h2 : s = 41 → ¬ (x = 40 ∨ x = 1060 ∨ (761 ≤ x ∧ x ≤ 763))) : b_Mod_operator_238 n J s x R = b_Mod_operator_425 n J s R := by
  have e1 : b_Mod_operator_238 n J s x R = b_Mod_operator_271 n J s x R := by
    rw [b_Mod_operator_238]
    by_cases z : s = 44
    · rw [if_pos z, if_neg (fun y => h1 ⟨z, y⟩)]
    · rw [if_neg z]
  have e2 : s ≠ 41 → b_Mod_operator_297 n J s x R = b_Mod_operator_425 n J s R := fun z => by
    rw [b_Mod_operator_297, b_Mod_operator_302, if_neg z]
  rw [e1, b_Mod_operator_271]
  by_cases z1 : x = 40
  · rw [if_pos z1, e2 (fun y => h2 y (Or.inl z1))]
  rw [if_neg z1]
  by_cases z2 : x = 1060
  · rw [if_pos z2, e2 (fun y => h2 y (Or.inr (Or.inl z2)))]
  rw [if_neg z2, inF]
  by_cases z3 : s = 41
  · have z4 : ¬ (761 ≤ x ∧ x ≤ 763) := fun y => h2 z3 (Or.inr (Or.inr y))
    rw [if_neg z4, Option.bind_some, if_pos z3, if_pos rfl, if_pos rfl]
  · by_cases z4 : 761 ≤ x ∧ x ≤ 763
    · rw [if_pos z4, Option.bind_some, if_neg z3]
    · rw [if_neg z4, Option.bind_some, if_neg z3]
/-- the expression ends, and its end can't come there -/
theorem eoF {T : Nat → Int32} {N n k k' o p c q : Nat} {J : JM} {ds : List CIt} {m x : Int32} {R : IM} (hn : 1000 ≤ n) (vt : VT T N) (hk : k' ≤ 900) (hp : p ≤ 900) (eo : EO T N n J k k' o p c q ds m R) (h1 : ¬ tS (tC T N k')) (h3 : tC T N k' ≠ 191) (hx : tpR R p = x) (h58 : x ≠ 58) (m1 : ¬ (tC T N k' = 186 ∧ x = 63)) (m2 : ¬ (tC T N k' = 172 ∧ x = 760)) (m3 : tC T N k' = 169 → ¬ (x = 40 ∨ x = 1060 ∨ (761 ≤ x ∧ x ≤ 763))) (m4 : ¬ (p = 0 ∧ tC T N k' = 187)) : ∃ (s : Nat) (R' : IM), s + k ≤ k' + 2 ∧ (∀ f, l_Mod_expression_12 n J (f + s) 1 R = some R') ∧ R' MO 14 = nI (tP T N k') ∧ RFq q R R' := by
  obtain ⟨s, w, R', R1, R2, a1, a2, a3, a4, a5, a6, a7, a8, a9, a10⟩ := eo
  have go : ∀ R3, f_Mod_operator n J R' = some (0, R3) → ∀ f, l_Mod_expression_12 n J (f + (s + 2)) 1 R = some R3 := fun R3 e f => by
    rw [show f + (s + 2) = f + 1 + 1 + s by omega, a3, lx3 a5 e, lx0]
  by_cases h2 : tQ (tC T N k')
  · obtain ⟨R3, b1, b2, b3⟩ := a10 h2
    exact ⟨s + 2, R3, by omega, go R3 b1, b2, b3⟩
  have t2 : tpR R2 p = x := by rw [tp_RZ a9 (Nat.le_refl _)]; exact hx
  obtain ⟨e1, e2⟩ := eo_end hn (by omega) (by omega) a6 a7 a8 (by rw [t2]; exact h58)
  have e3 : f_Mod_operator n J R' = some (0, up R2 MO 14 (nI (tP T N k'))) := by
    have n58 : ¬ (R' MO 10 - 400 = 58 ∧ x = 63) := fun y => m1 ⟨(sub4 (s := 58) vt a4 (by decide)).mp y.1, y.2⟩
    have f1 : opT n J (R' MO 10 - 400) x R2 = b_Mod_operator_238 n J (R' MO 10 - 400) x R2 := by
      unfold opT
      by_cases z : R' MO 10 - 400 = 58
      · rw [if_pos z, if_neg (fun y => n58 ⟨z, y⟩)]
      · rw [if_neg z]
    rw [opE vt a4 h1 h2 h3, e1, Option.bind_some, e2, Option.bind_some, t2, f1, b238F (fun y => m2 ⟨(sub4 (s := 44) vt a4 (by decide)).mp y.1, y.2⟩) (fun y => m3 ((sub4 (s := 41) vt a4 (by decide)).mp y)), b425 a8 (by omega) (fun y => m4 ⟨y.1, (sub4 (s := 59) vt a4 (by decide)).mp y.2⟩)]
  exact ⟨s + 2, _, by omega, go _ e3, up_self, RFq_t a9.2.2.2.2 (RFq_u (by decide))⟩
/-- the expression ends, and goes on by the sign of its end -/
theorem eoG {T : Nat → Int32} {N n k k' o p c q : Nat} {J : JM} {ds : List CIt} {m x : Int32} {R : IM} (hn : 1000 ≤ n) (vt : VT T N) (hk : k' ≤ 900) (hp : p ≤ 900) (eo : EO T N n J k k' o p c q ds m R) (h1 : ¬ tS (tC T N k')) (h2 : ¬ tQ (tC T N k')) (h3 : tC T N k' ≠ 191) (hx : tpR R p = x) (h58 : x ≠ 58) : ∃ (s : Nat) (R' R2 : IM), s + k ≤ k' ∧ (∀ f, l_Mod_expression_12 n J (f + s) 1 R = l_Mod_expression_12 n J f 2 R') ∧ RB T N k' R' ∧ R' MO 14 = -1 ∧ f_Mod_operator n J R' = opT n J (R' MO 10 - 400) x R2 ∧ RQ T N k' o p (c + ds.length) q R2 ∧ RZ p c q ds m R R2 := by
  obtain ⟨s, w, R', R1, R2, a1, a2, a3, a4, a5, a6, a7, a8, a9, a10⟩ := eo
  have t2 : tpR R2 p = x := by rw [tp_RZ a9 (Nat.le_refl _)]; exact hx
  obtain ⟨e1, e2⟩ := eo_end hn (by omega) (by omega) a6 a7 a8 (by rw [t2]; exact h58)
  exact ⟨s, R', R2, a1, a3, a4, a5, by rw [opE vt a4 h1 h2 h3, e1, Option.bind_some, e2, Option.bind_some, t2], a8, a9⟩
/-- what a bracket that closes emits -/
abbrev X1 (x : Int32) (es : List CIt) (w : Int32) : Prop := (x = 40 ∧ es = [] ∧ w = 0) ∨ (x = 761 ∧ es = [(311, 0)] ∧ w = 0) ∨ (x = 762 ∧ es = [(312, 0)] ∧ w = 0) ∨ (x = 763 ∧ es = [(313, 0)] ∧ w = 65536)
abbrev X2 (x : Int32) (es : List CIt) (w : Int32) : Prop := x = 760 ∧ es = [(310, 0)] ∧ w = 32768
abbrev X3 (x : Int32) (es : List CIt) (w : Int32) : Prop := x = 1060 ∧ es = [(310, 0)] ∧ w = 32768
theorem cl413 {T : Nat → Int32} {N n k o p c q : Nat} {J : JM} {us : List Int32} {D : IM} {y w : Int32} (hJ : JOK J) (hn : 1000 ≤ n) (vt : VT T N) (h : RQ T N k o (p + us.length) c q D) (hu : PU D p us) (ho : us.length ≤ o) (nt : ¬ bU (tpR D p)) (hc : c + us.length + 1 < 1000) (hp : p + us.length < 1000) (hq : q < 602) (hy : rfV (y, 0) c = 0) : ∃ R1 R3, f_Mod_emit y 0 D = some R1 ∧ R1 MO 23 = nI q ∧ b_Mod_operator_413 n J w (R1 A_named q) (nI q) R1 = some (2, R3) ∧ RQ T N (k + 1) (o - us.length) p (c + 1 + us.length) q R3 ∧ RZ p c q ([(y, 0)] ++ uI us) w D R3 := by
  obtain ⟨R1, b1, b2, b3, b4⟩ := rEm (d := (y, 0)) (x := y) (v := 0) (by omega) h rfl hy
  have q1 : RQ T N k o (p + us.length) (c + 1) q (up R1 A_named q (R1 A_named q ||| w)) := RQ_a (by decide) (by decide) b2
  have re1 := RZ_nm (w := w) b3
  rw [Int32.zero_or] at re1
  obtain ⟨R2, R3, d1, d2, d3, d4⟩ := stWh (n := n) (us := us) hJ hn vt q1 (PU_c us (fun j hj => (re1.2.2.2.1 j hj).1) hu) ho (by rw [tp_RZ re1 (by omega)]; exact nt) (by omega) (by omega)
  refine ⟨R1, R3, b1, b2.2.2.2.2.2, ?_, d3, ?_⟩
  · rw [b_Mod_operator_413, chk_i (show inb (nI q) 602 from nki hq (by decide)), nkc (by omega), lt, b_Mod_operator_415, d1, Option.bind_some, d2, Option.bind_some]
  · have := RZ_t (Nat.le_refl p) (RZ_p (by omega) re1) d4
    rw [Int32.or_zero] at this
    exact this
theorem clo {T : Nat → Int32} {N n k o p c q : Nat} {J : JM} {us : List Int32} {R : IM} {x w : Int32} {es : List CIt} (hJ : JOK J) (hn : 1000 ≤ n) (vt : VT T N) (h : RQ T N k (o + 1) (p + us.length + 1) c q R) (hu : PU R p us) (ho : us.length ≤ o) (nt : ¬ bU (tpR R p)) (hc : c + us.length + 1 < 1000) (hp : p + us.length + 1 < 1000) (hq : q < 602) (hx : X1 x es w ∨ X3 x es w) : ∃ R3, b_Mod_operator_238 n J 41 x R = some (2, R3) ∧ RQ T N (k + 1) (o - us.length) p (c + es.length + us.length) q R3 ∧ RZ p c q (es ++ uI us) w R R3 := by
  obtain ⟨D, hD⟩ : ∃ D, D = up (up R MO 29 (nI (p + us.length))) MO 28 (nI o) := ⟨_, rfl⟩
  have qD : RQ T N k o (p + us.length) c q D := by rw [hD]; exact RQ_28 (RQ_29 h)
  have rD : RZ (p + us.length) c q [] 0 R D := by rw [hD]; exact RZ_l (RZ_u (by decide)) (RZ_u (by decide))
  have uD : PU D p us := PU_c us (fun j hj => (rD.2.2.2.1 j hj).1) hu
  have nD : ¬ bU (tpR D p) := by rw [tp_RZ rD (by omega)]; exact nt
  have h29 : R MO 29 = nI (p + us.length + 1) := h.2.2.2.1
  have d1 : (up R MO 29 (nI (p + us.length))) MO 28 = nI (o + 1) := by rw [up_ne (Or.inr (by decide))]; exact h.2.2.1
  have b302 : ∀ y : Int32, b_Mod_operator_302 n J 41 y 1 R = if y = (40 : Int32) then (b_Mod_operator_415 n J D) else (Option.bind (f_Mod_emit (if y ≤ (1000 : Int32) then ((((310) + (y)) - (700)) - (60)) else 310) 0 D) fun v78 => chk (inb (v78 MO 23) 602) <| if y ≤ (1000 : Int32) then (if y = (763 : Int32) then (b_Mod_operator_413 n J 65536 (v78 A_named (v78 MO 23 : Int32).toNatClampNeg) (v78 MO 23) v78) else (b_Mod_operator_413 n J 0 (v78 A_named (v78 MO 23 : Int32).toNatClampNeg) (v78 MO 23) v78)) else (b_Mod_operator_413 n J 32768 (v78 A_named (v78 MO 23 : Int32).toNatClampNeg) (v78 MO 23) v78)) := fun y => by
    rw [b_Mod_operator_302, if_pos rfl, if_neg one0, h29, ps1, lt, d1, ps1, lt, ← hD]
  have b271 : ∀ y : Int32, 761 ≤ y ∧ y ≤ 763 → ¬ y = 40 → ¬ y = 1060 → b_Mod_operator_271 n J 41 y R = b_Mod_operator_302 n J 41 y 1 R := fun y z1 z2 z3 => by
    rw [b_Mod_operator_271, if_neg z2, if_neg z3, inF, if_pos z1, Option.bind_some, if_pos rfl, if_neg one0, if_neg one0, b_Mod_operator_302, if_pos rfl, if_neg one0]
  have n44 : ¬ (41 : Int32) = 44 := by decide
  have iq : inb (nI q) 602 := nki hq (by decide)
  rcases hx with (⟨rfl, rfl, rfl⟩ | ⟨rfl, rfl, rfl⟩ | ⟨rfl, rfl, rfl⟩ | ⟨rfl, rfl, rfl⟩) | ⟨rfl, rfl, rfl⟩
  · obtain ⟨R2, R3, a1, a2, a3, a4⟩ := stWh (n := n) (us := us) hJ hn vt qD uD ho nD (by omega) (by omega)
    refine ⟨R3, ?_, a3, RZ_l (RZ_p (by omega) rD) a4⟩
    rw [b_Mod_operator_238, if_neg n44, b_Mod_operator_271, if_pos rfl, b_Mod_operator_297, b302, if_pos rfl, b_Mod_operator_415, a1, Option.bind_some, a2, Option.bind_some]
  · obtain ⟨R1, R3, a1, a2, a3, a4, a5⟩ := cl413 (y := 311) (w := 0) hJ hn vt qD uD ho nD (by omega) (by omega) hq rfl
    refine ⟨R3, ?_, a4, RZ_l (RZ_p (by omega) rD) a5⟩
    rw [b_Mod_operator_238, if_neg n44, b271 _ (by decide) (by decide) (by decide), b302, if_neg (by decide), if_pos (by decide), show (310 : Int32) + 761 - 700 - 60 = 311 by decide, a1, Option.bind_some, a2, chk_i iq, if_pos (by decide), if_neg (by decide), nkc (by omega), a3]
  · obtain ⟨R1, R3, a1, a2, a3, a4, a5⟩ := cl413 (y := 312) (w := 0) hJ hn vt qD uD ho nD (by omega) (by omega) hq rfl
    refine ⟨R3, ?_, a4, RZ_l (RZ_p (by omega) rD) a5⟩
    rw [b_Mod_operator_238, if_neg n44, b271 _ (by decide) (by decide) (by decide), b302, if_neg (by decide), if_pos (by decide), show (310 : Int32) + 762 - 700 - 60 = 312 by decide, a1, Option.bind_some, a2, chk_i iq, if_pos (by decide), if_neg (by decide), nkc (by omega), a3]
  · obtain ⟨R1, R3, a1, a2, a3, a4, a5⟩ := cl413 (y := 313) (w := 65536) hJ hn vt qD uD ho nD (by omega) (by omega) hq rfl
    refine ⟨R3, ?_, a4, RZ_l (RZ_p (by omega) rD) a5⟩
    rw [b_Mod_operator_238, if_neg n44, b271 _ (by decide) (by decide) (by decide), b302, if_neg (by decide), if_pos (by decide), show (310 : Int32) + 763 - 700 - 60 = 313 by decide, a1, Option.bind_some, a2, chk_i iq, if_pos (by decide), if_pos rfl, nkc (by omega), a3]
  · obtain ⟨R1, R3, a1, a2, a3, a4, a5⟩ := cl413 (y := 310) (w := 32768) hJ hn vt qD uD ho nD (by omega) (by omega) hq rfl
    refine ⟨R3, ?_, a4, RZ_l (RZ_p (by omega) rD) a5⟩
    rw [b_Mod_operator_238, if_neg n44, b_Mod_operator_271, if_neg (by decide), if_pos rfl, b_Mod_operator_297, b302, if_neg (by decide), if_neg (by decide), a1, Option.bind_some, a2, chk_i iq, if_neg (by decide), nkc (by omega), a3]
/-- what reading an expression comes to -/
def FaE (T : Nat → Int32) (N K n pt : Nat) (J : JM) (o k : Nat) (C : IM) (F : Option (Int32 × IM)) : Prop := ∃ (C' : IM) (k' : Nat), F = some (0, C') ∧ k ≤ k' ∧ RA T N K k' C' ∧ CFp pt C C' ∧ ∀ (J : JM), JOK J → ∀ (R : IM) (p c q : Nat), HR T N k o [] p c q R → ¬ bS (tpR R p) → ¬ bC (tpR R p) → ∃ (s : Nat) (R' : IM), s + k ≤ k' + 2 ∧ (∀ f, l_Mod_expression_12 n J (f + s) 1 R = some R') ∧ R' MO 14 = nI (tP T N k') ∧ RFq q R R'
def OkX (T : Nat → Int32) (N K n pt : Nat) (J : JM) (o k L : Nat) (C : IM) (F : Option (Int32 × IM)) : Prop := ∃ (C' : IM) (k' : Nat) (ds : List CIt) (m : Int32), F = some (1, C') ∧ k + ds.length ≤ k' ∧ k < k' ∧ RA T N K k' C' ∧ CE pt L ds m C C' ∧ HT m (3 * (11 - o)) 0 1 ds ∧ mB m ∧ ¬ tS (tC T N k') ∧ tC T N k' ≠ 191 ∧ ∀ (J : JM), JOK J → ∀ (R : IM) (p c q : Nat), HR T N k o [] p c q R → ¬ bS (tpR R p) → ¬ bC (tpR R p) → EO T N n J k k' o p c q ds m R
def SpE (T : Nat → Int32) (N K n pt : Nat) (J : JM) (o : Nat) (F : RF) : Prop := ∀ (k L : Nat) (C : IM), RA T N K k C → C pt 0 = nI L → L ≤ k → OkX T N K n pt J o k L C (F (nI o) C) ∨ FaE T N K n pt J o k C (F (nI o) C)
/-- inside a bracket -/
def HB (T : Nat → Int32) (N k o : Nat) (us : List Int32) (p c q : Nat) (x : Int32) (R : IM) : Prop := RQ T N k (o + 1) (p + us.length + 1) c q R ∧ R A_pile (p + us.length) = x ∧ PU R p us ∧ us.length ≤ o ∧ ¬ bU (tpR R p) ∧ c + us.length + 1 ≤ k ∧ p + us.length + 1 ≤ k ∧ q < 602
theorem tp_s {R : IM} {P : Nat} {x : Int32} (h : R A_pile P = x) : tpR R (P + 1) = x := by
  rw [tpR, if_neg (by omega), Nat.add_sub_cancel, h]
def rIn (pt : Nat) (E T : RF) (x1 x2 : Int32) (v3 : IM) : Option (Int32 × IM) := Option.bind (E (x1 + 1) v3) fun v5 => if (v5.1 : Int32) = 0 then (some (0, v5.2)) else (if x2 = 0 then (b_Prd_readBracket_69 pt E T v5.2) else (Option.bind (f_Rdr_take 172 v5.2) fun v9 => if (v9.1 : Int32) = 0 then (b_Prd_readBracket_67 pt E T v9.2) else (Option.bind (E (x1 + 1) v9.2) fun v12 => if (v12.1 : Int32) = 0 then (b_Prd_readBracket_67 pt E T v12.2) else (b_Prd_readBracket_69 pt E T v12.2))))
def FaB (T : Nat → Int32) (N K n pt : Nat) (J : JM) (o k : Nat) (C : IM) (F : Option (Int32 × IM)) (X : Int32 → List CIt → Int32 → Prop) : Prop := ∃ (C' : IM) (k' : Nat), F = some (0, C') ∧ k ≤ k' ∧ RA T N K k' C' ∧ CFp pt C C' ∧ ∀ (J : JM), JOK J → ∀ (R : IM) (us : List Int32) (p c q : Nat) (x w : Int32) (es : List CIt), HB T N k o us p c q x R → X x es w → ∃ (s : Nat) (R' : IM), s + k ≤ k' + 2 ∧ (∀ f, l_Mod_expression_12 n J (f + s) 1 R = some R') ∧ R' MO 14 = nI (tP T N k') ∧ RFq q R R'
def OkB (T : Nat → Int32) (N K n pt : Nat) (J : JM) (o k L : Nat) (C : IM) (F : Option (Int32 × IM)) (X : Int32 → List CIt → Int32 → Prop) (h : Nat) : Prop := ∃ (C' : IM) (k' : Nat) (ds : List CIt) (m : Int32), F = some (1, C') ∧ k + ds.length + 1 ≤ k' ∧ RA T N K k' C' ∧ CE pt L ds m C C' ∧ HT m (3 * (10 - o) + 1) 0 h ds ∧ mB m ∧ ∀ (J : JM), JOK J → ∀ (R : IM) (us : List Int32) (p c q : Nat) (x w : Int32) (es : List CIt), HB T N k o us p c q x R → X x es w → ∃ (s : Nat) (R' : IM), s + k ≤ k' ∧ (∀ f, l_Mod_expression_12 n J (f + s) 1 R = l_Mod_expression_12 n J f 2 R') ∧ RQ T N k' (o - us.length) p (c + (ds.length + es.length) + us.length) q R' ∧ RZ p c q ((ds ++ es) ++ uI us) (m ||| w) R R'
theorem tk_1 {T : Nat → Int32} {N K k w : Nat} {C : IM} (vt : VT T N) (ra : RA T N K k C) (hw : tC T N k = w) (h1 : w ≠ 100) (h2 : w ≠ 102) : ∃ C', f_Rdr_take (nI w) C = some (1, C') ∧ RA T N K (k + 1) C' ∧ ∀ b, b ≠ 1 → C' b = C b := by
  obtain ⟨kK, K9, hK⟩ := RA_K ra
  obtain ⟨C1, a1, a2, a3⟩ := adC vt ra (kltK hK kK (by omega) (by omega))
  exact ⟨C1, by rw [f_Rdr_take, if_pos (c11 ra hw), a1, Option.bind_some], a2, a3⟩
theorem tk_0 {T : Nat → Int32} {N K k w : Nat} {C : IM} (vt : VT T N) (ra : RA T N K k C) (hb : w < 1000) (hw : tC T N k ≠ w) : f_Rdr_take (nI w) C = some (0, C) := by
  rw [f_Rdr_take, if_neg (fun y => by rw [ra.2.2.2.2.1] at y; exact hw (nij (by have := tC_b (k := k) vt; omega) (by omega) y))]
