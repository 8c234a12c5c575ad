/-! an attempt, on both sides -/
theorem attN {n m p : Nat} {C Ct : IM} {en : Int32} (h : f_Stp_tryOut n m p (up (up (up C 35 11 0) 35 12 0) 35 13 0) = some (en, Ct)) (h0 : ¬ en = 0) (h1 : ¬ en = 1) : f_Stp_attempt n m p C = b_Stp_attempt_68 n m p en 0 (up Ct (m + 13) 0 en) := by
  rw [f_Stp_attempt]
  simp only [lt]
  rw [h, Option.bind_some, if_neg h0, if_neg h1, if_pos rfl]
  rfl
theorem attD {n m p : Nat} {C Ct : IM} {en : Int32} (h : f_Stp_tryOut n m p (up (up (up C 35 11 0) 35 12 0) 35 13 0) = some (en, Ct)) (h0 : en = 0 ∨ en = 1) : f_Stp_attempt n m p C = b_Stp_attempt_68 n m p en 1 (up (up (up Ct (m + 13) 0 en) (m + 13) 2 (up Ct (m + 13) 0 en (m + 13) 2 + 1)) m 1 (up (up Ct (m + 13) 0 en) (m + 13) 2 (up Ct (m + 13) 0 en (m + 13) 2 + 1) 35 3)) := by
  have e : (if en = 0 then 1 else (if en = 1 then 1 else 0) : Int32) = 1 := by
    rcases h0 with z | z
    · rw [if_pos z]
    · rw [if_neg (by rw [z]; decide), if_pos z]
  rw [f_Stp_attempt]
  simp only [lt]
  rw [h, Option.bind_some]
  show (if (if en = 0 then 1 else (if en = 1 then 1 else 0) : Int32) = 0 then _ else _) = _
  rw [e, if_neg (by decide)]
  rfl
/-- what an attempt starts from -/
def AB (A : AP) (p n m b : Nat) (tl : Int32 → Nat → Prop) (C R : IM) : Prop := 1000 ≤ n ∧ isMch m ∧ isPol p ∧ WF A ∧ PC A p C ∧ PR A 0 0 0 0 R ∧ (∀ s, s < aNs A → R A_statementAt s = aSa A s) ∧ R MO 69 = 0 ∧ QA b tl C m R ∧ b ≤ 2000000 ∧ C m 2 = -1 ∧ ∀ kd q, kd < 22 → q < aNr A → aRo A kd = nI q → tl (nI kd) 0 ∧ ∀ j, j < 3 → (tl (nI kd) (51 + j) ↔ aTe A q (51 + j))
/-- the rule allows it, and nothing hinders: both sides do it -/
theorem fin_d {A : AP} {p n m b q kd a bb c pl : Nat} {tl : Int32 → Nat → Prop} {C G V : IM} {dt dw : Int32} (hn : 1000 ≤ n) (hm : isMch m) (hp : isPol p) (hb : b ≤ 2000000) (hq : q < aNr A) (e : aRo A kd = nI q) (pc : PC A p G) (qa : QA b tl G m V) (d : DEC G V kd a bb c pl) (h1 : (kd = 21 → dt = V A_registerTags a) ∧ (¬ kd = 21 → dt = 0)) (h2 : (∀ w, w < 96 → kd = 12 → V MO 80 = nI w → dw = V A_owners w) ∧ ((¬ kd = 12 ∨ ¬ inW (V MO 80)) → dw = 0)) (un : ∀ j, j < 3 → ¬ aTe A q (51 + j) → V MO (83 + j) = dfl dt (V MO 43) dw j) (ta : ∀ j, j < 3 → aTe A q (51 + j) → G 37 (2 + j) = V MO (83 + j)) (hbl : G m 2 = -1) (e11 : G 35 11 = V MO 67) (n11 : ¬ G 35 11 = 0) (htry : f_Stp_tryOut n m p (up (up (up C 35 11 0) 35 12 0) 35 13 0) = b_Stp_tryOut_127 n m p 0 G) (hw : (kd = 11 ∨ kd = 12) → inW (V MO 80)) (hin : kd = 18 → ¬ V MO 45 = 0) (hmk : kd = 19 → ∃ M k, 1 ≤ M ∧ M ≤ 16 ∧ k + M ≤ 96 ∧ V A_registers bb = nI M ∧ (∀ D, f_Mod_in (nI M) 1 16 D = some 1) ∧ f_Mod_freeWords n (nI M) (up V MO 50 0) = some (nI k) ∧ G 35 10 = nI k) (ht : tlR n V = if kd = 19 then (Option.bind (f_Mod_make n (up V MO 50 0)) fun v34 => if (v34.1 : Int32) = 0 then (b_Mod_instruct_266 n (up v34.2 MO 50 4)) else (b_Mod_instruct_266 n v34.2)) else b_Mod_instruct_266 n (up V MO 50 0)) : ∃ dn C' R', f_Stp_attempt n m p C = some (dn, C') ∧ tlR n V = some (dn, R') ∧ ((dn = 0 ∧ ¬ R' MO 50 = 0) ∨ dn = 1) ∧ AT b m tl V C' R' := by
  have mm := m35 hm
  obtain ⟨hk2, ha, hb3, hc, hpl, d1, d2, d3, d4, d5, d6, d7, d8, d9, d10, d11, d12, d13, d14, d15⟩ := id d
  obtain ⟨T, hT, eT, hTe⟩ := ((pc.1 kd hk2).2 q hq e).2.2.2
  obtain ⟨q1, q2, q3, q4, q5, q6, q8, q9, qc⟩ := id qa
  obtain ⟨S, fS, s1, s2, s12, s13, s14⟩ := stl hm hT hTe d q1 h1 h2 un ta
  obtain ⟨V0, hV0⟩ : ∃ z, z = up V MO 50 0 := ⟨_, rfl⟩
  have v0b : ∀ k, k ≠ MO → V0 k = V k := fun k z => by rw [hV0, fu z]
  have v0m : ∀ j, j ≠ 50 → V0 MO j = V MO j := fun j z => by rw [hV0, up_ne (Or.inr z)]
  have qaS : QA b tl S m V0 := QA_c (Nat.le_refl b) qa (fun i z1 z2 z3 => s1 _ (by omega)) (by rw [s1 m (by omega)]) (by rw [s1 m (by omega)]) (fun j _ => by rw [s1 _ (by omega)]) (fun k z1 z2 z3 => v0b k (by show k ≠ 102; omega)) (fun j hj => v0m j (fun z => by subst z; revert hj; decide))
  obtain ⟨p1, p2, p3, p4, p5, p6, p8, p9, pcq⟩ := id qaS
  have dS : DEC S V0 kd a bb c pl := by
    refine ⟨hk2, ha, hb3, hc, hpl, ?_, ?_, ?_, ?_, ?_, ?_, ?_, ?_, ?_, ?_, ?_, ?_, ?_, ?_, ?_⟩
    · rw [s2 4 (by decide) (by decide) (by decide)]; exact d1
    · rw [v0m 75 (by decide)]; exact d2
    · rw [s2 5 (by decide) (by decide) (by decide)]; exact d3
    · rw [v0m 76 (by decide)]; exact d4
    · rw [s2 6 (by decide) (by decide) (by decide)]; exact d5
    · rw [v0m 77 (by decide)]; exact d6
    · rw [s2 7 (by decide) (by decide) (by decide)]; exact d7
    · rw [v0m 78 (by decide)]; exact d8
    · rw [s2 8 (by decide) (by decide) (by decide), v0m 79 (by decide)]; exact d9
    · rw [s2 9 (by decide) (by decide) (by decide), v0m 80 (by decide)]; exact d10
    · rw [s2 2 (by decide) (by decide) (by decide)]; exact d11
    · rw [v0m 42 (by decide)]; exact d12
    · rw [s2 3 (by decide) (by decide) (by decide), v0b _ (by decide)]; exact d13
    · rw [v0m 80 (by decide), v0m 81 (by decide)]; exact d14
    · rw [v0m 80 (by decide), v0m 81 (by decide)]; exact d15
  have ps : PS b n m kd a bb c pl S V0 := ⟨hn, hm, dS, p1, p2, p3, p4, by rw [s12, v0m 83 (by decide)], by rw [s13, v0m 84 (by decide)], by rw [s14, v0m 85 (by decide)], by rw [hV0, up_self]⟩
  have tr : f_Stp_tryOut n m p (up (up (up C 35 11 0) 35 12 0) 35 13 0) = Option.bind (f_Stp_perform n m S) fun v26 => some (if (v26 35 4 : Int32) = 0 then 1 else 0, v26) := by
    rw [htry, b_Stp_tryOut_127, if_pos rfl, d1, chk_i (nki hk2 (by decide)), nkc (by omega), eT, fS, Option.bind_some]
  -- from perform on, both sides alike
  have go : ∀ (C1 R1 Ri : IM) (to : Int32), f_Stp_perform n m S = some (up (up C1 (m + 6) 8 to) (m + 7) 8 (S 35 13)) → f_Mod_perform n Ri = some (to, R1) → Q1 C1 m R1 → Q2 C1 m R1 → Q3 C1 m R1 → Q4 (b + 1) C1 m R1 → PF m S V0 C1 R1 → R1 MO 50 = (if kd = 0 then 1 else 0) → Ri MO 50 = 0 → Ri MO 42 = nI pl → Ri A_codeTags = V0 A_codeTags → tlR n V = b_Mod_instruct_266 n Ri → ∃ dn C' R', f_Stp_attempt n m p C = some (dn, C') ∧ tlR n V = some (dn, R') ∧ ((dn = 0 ∧ ¬ R' MO 50 = 0) ∨ dn = 1) ∧ AT b m tl V C' R' := by
    intro C1 R1 Ri to fP fM w1 w2 w3 w4 pf r50 i50 i42 iT eT
    have e4 : C1 35 4 = nI kd := by rw [pf.1 35 (by omega) (by omega), s2 4 (by decide) (by decide) (by decide)]; exact d1
    have e3 : C1 35 3 = S 35 3 := by rw [pf.1 35 (by omega) (by omega)]
    have en : (if (up (up C1 (m + 6) 8 to) (m + 7) 8 (S 35 13) 35 4 : Int32) = 0 then 1 else 0 : Int32) = if kd = 0 then 1 else 0 := by
      rw [fu (by omega), fu (by omega), e4]
      by_cases z : kd = 0
      · rw [if_pos z, if_pos (by rw [z]; rfl)]
      · rw [if_neg z, if_neg (fun y => z ((kde hk2 0 (by decide)).mp y))]
    have tr' : f_Stp_tryOut n m p (up (up (up C 35 11 0) 35 12 0) 35 13 0) = some (if kd = 0 then 1 else 0, up (up C1 (m + 6) 8 to) (m + 7) 8 (S 35 13)) := by
      rw [tr, fP, Option.bind_some, en]
    have enn : (if kd = 0 then 1 else 0 : Int32) = 0 ∨ (if kd = 0 then 1 else 0 : Int32) = 1 := by
      by_cases z : kd = 0
      · rw [if_pos z]; exact Or.inr rfl
      · rw [if_neg z]; exact Or.inl rfl
    obtain ⟨C', R', g1, g2, g3⟩ := end_d (b := b) (n := n) (m := m) (p := p) (kd := kd) (pl := pl) (tl := tl) (Cb := S) (Rb := V0) (Ri := Ri) (C1 := C1) (R1 := R1) (to := to) (en := if kd = 0 then 1 else 0) hm hb hk2 hpl p5 p6 p8 p9 pcq pf w1 w2 w3 w4 dS.2.2.2.2.2.2.2.2.2.2.2.2.2.2.2.1 dS.2.2.2.2.2.1 dS.2.2.2.2.2.2.1 (by rw [s2 11 (by decide) (by decide) (by decide), v0m 67 (by decide)]; exact e11) (by rw [s2 11 (by decide) (by decide) (by decide)]; exact n11) (by rw [s12, v0m 83 (by decide)]) (by rw [s13, v0m 84 (by decide)]) dS.2.2.2.2.2.2.2.2.2.2.2.2.2.2.2.2.2.1 r50 enn (by rw [s1 m (by omega)]; exact hbl) fM i50 i42 iT
    refine ⟨1, C', R', ?_, by rw [eT]; exact g2, Or.inr rfl, g3.1, g3.2.1, g3.2.2.1, RF1_t (by rw [hV0]; exact RF1_m (by decide)) g3.2.2.2⟩
    rw [attD tr' enn, ← g1, up_ne (Or.inr (show 2 ≠ 0 by decide)), fu (show m + 13 ≠ m + 7 by omega), fu (show m + 13 ≠ m + 6 by omega), fu (show 35 ≠ m + 13 by omega), fu (show 35 ≠ m + 13 by omega), fu (show 35 ≠ m + 7 by omega), fu (show 35 ≠ m + 6 by omega), e3]
  have i50 : V0 MO 50 = 0 := by rw [hV0, up_self]
  have i42 : V0 MO 42 = nI pl := dS.2.2.2.2.2.2.2.2.2.2.2.2.2.2.2.2.1
  by_cases k19 : kd = 19
  · obtain ⟨M, k, x1, x2, x3, x4, x5, x6, x7⟩ := hmk k19
    subst k19
    obtain ⟨C1, R1, g1, g2, g3, g4, g5, g6, g7, g8, g9⟩ := perf_make (k := k) ps x1 x2 x3 (by rw [v0b _ (by decide)]; exact x4) (x5 _) (by rw [hV0]; exact x6) (by rw [s2 10 (by decide) (by decide) (by decide)]; exact x7)
    refine go C1 R1 R1 (nI pl + 1) g1 g3 g4 g5 g6 g7 g8 (by rw [g9]; rfl) g9 (by rw [g8.2.2.2 42 (by decide) (by decide) (by decide) (by decide)]; exact i42) (g8.2.2.1 _ (by decide) (by decide)) ?_
    rw [ht, if_pos rfl, ← hV0, g2, Option.bind_some, if_neg (show ¬ (1 : Int32) = 0 by decide)]
  · have pg : PG b n m S V0 kd := by
      have hw0 : (kd = 11 ∨ kd = 12) → inW (V0 MO 80) := fun z => by rw [v0m 80 (by decide)]; exact hw z
      by_cases z1 : (1 ≤ kd ∧ kd ≤ 11) ∨ kd = 21
      · exact perf_reg ps z1 (fun z => hw0 (Or.inl z))
      · by_cases z2 : kd = 0 ∨ kd = 13 ∨ kd = 14 ∨ kd = 15
        · exact perf_jmp ps z2
        · have : kd = 12 ∨ kd = 16 ∨ kd = 17 ∨ kd = 18 ∨ kd = 20 := by omega
          rcases this with z | z | z | z | z
          · subst z; exact perf_store ps (hw0 (Or.inr rfl))
          · subst z; exact perf_link ps
          · subst z; exact perf_out ps hb
          · subst z; exact perf_in ps (by rw [v0m 45 (by decide)]; exact hin rfl)
          · subst z; exact perf_drop ps
    obtain ⟨C1, R1, to, g1, g2, g3, g4, g5, g6, g7, g8⟩ := pg
    refine go C1 R1 V0 to g1 g2 g3 g4 g5 g6 g7 g8 i50 i42 rfl ?_
    rw [ht, if_neg k19, hV0]
