/-! policy: all statements of a rule -/
theorem toldN : ∀ rn, rn < 16 → nI rn ||| ((1 : Int32) <<< (nI 0 &&& 31)) = nI (rn / 2 * 2 + 1) ∧ (rn / 2 * 2 + 1) / 2 = rn / 2 ∧ rn / 2 * 2 + 1 < 16 := by decide +kernel
theorem toldQ : ∀ tn, tn < 8 → ∀ i, i < 3 → ∀ j, j < 3 → (tn / 2 ^ i % 2 = 1 ∨ ((tn + 2 ^ i) / 2 ^ j % 2 = 1 ↔ (tn / 2 ^ j % 2 = 1 ∨ i = j))) := by decide +kernel
theorem stF : ∀ t, t < 45 → 41 ≤ t → nI (m2r t) - 50 = nI (t - 41) ∧ nI t - 42 = (if t = 41 then -1 else nI (t - 42)) ∧ nI (m2r t) - 9 = nI t ∧ nI (m2r t) = nI (50 + (t - 41)) := by decide +kernel
theorem cSt0 {n pt t : Nat} {C : IM} (e : C 1 1 = nI t) (hb : t < 1000) (h : ¬ (41 ≤ t ∧ t ≤ 44)) : f_Prd_readStatement n pt C = some (0, C) := by
  by_cases z : t < 41
  · rw [f_Prd_readStatement, e, if_pos (show nI t < 41 from (nlt (b := 41) (by omega) (by decide)).mpr z), b_Prd_readStatement_28]
  · rw [f_Prd_readStatement, e, if_neg (show ¬ nI t < 41 from fun y => z ((nlt (b := 41) (by omega) (by decide)).mp y)), if_neg (show ¬ nI t ≤ 44 from fun y => by have := (nle (b := 44) (by omega) (by decide)).mp y; omega), b_Prd_readStatement_28]
theorem stm {T : Nat → Int32} {N K n pt k L tn : Nat} {J : JM} {C : IM} (hn : 1000 ≤ n) (vt : VT T N) (hp : isPol pt) (iE : SpE T N K n pt J 0 (recP n pt 11).1) (ra : RA T N K k C) (hL : C pt 0 = nI L) (hLk : L ≤ k) (h4 : C 7 4 = nI tn) (htn : tn < 8) : (∃ (t tn' : Nat) (C' : IM) (k' : Nat) (ds : List CIt) (m : Int32), tC T N k = t ∧ 41 ≤ t ∧ t ≤ 44 ∧ tn' < 8 ∧ (t = 41 → tn' = tn) ∧ (∀ j, j < 3 → t = 42 + j → ¬ tn / 2 ^ j % 2 = 1 ∧ tn' = tn + 2 ^ j) ∧ f_Prd_readStatement n pt C = some (1, C') ∧ k + ds.length + 2 ≤ k' ∧ RA T N K k' C' ∧ CM pt L ds m t (nI (tP T N k)) tn' C C' ∧ HT m 33 0 1 ds ∧ mB m ∧ ∀ (J : JM), JOK J → ∀ (R : IM) (c ns q rn : Nat), RS T N k c ns q R → c ≤ k → ns < 300 → q < 602 → rn < 16 → rn / 2 = tn → ∃ (R' : IM) (rn' : Nat), f_Mod_statement n J (nI rn) R = some R' ∧ rn' < 16 ∧ rn' / 2 = tn' ∧ nI rn ||| ((1 : Int32) <<< ((R MO 10 - 50 : Int32) &&& 31)) = nI rn' ∧ RS T N k' (c + ds.length) (ns + 1) q R' ∧ RMs c ns q ds m t (nI (tP T N k)) R R') ∨ (∃ (C' : IM) (k' : Nat), f_Prd_readStatement n pt C = some (0, C') ∧ k ≤ k' ∧ RA T N K k' C' ∧ CFs pt C C' ∧ ∀ (J : JM), JOK J → ∀ (R : IM) (c ns q rn : Nat), RS T N k c ns q R → c ≤ k → ns < 300 → q < 602 → rn < 16 → rn / 2 = tn → ∃ R', f_Mod_statement n J (nI rn) R = some R' ∧ R' MO 14 = nI (tP T N k') ∧ RFs ns q R R') := by
  have p8' := p8 hp
  obtain ⟨kK, K9, hK⟩ := RA_K ra
  obtain ⟨t, ht⟩ : ∃ t, tC T N k = t := ⟨_, rfl⟩
  have e11 := c11 ra ht
  have e12 : C 1 2 = nI (tP T N k) := ra.2.2.2.2.2.1
  have fl : ∀ (J : JM) (R : IM) (ns q : Nat) (c : Nat), RS T N k c ns q R → b_Mod_statement_34 n J R = some (up R MO 14 (nI (tP T N k))) := fun J R ns q c rs => by
    rw [b_Mod_statement_34, rFl rs.1 rs.2.1, Option.bind_some]
  by_cases h : 41 ≤ t ∧ t ≤ 44
  rotate_left
  · refine Or.inr ⟨C, k, cSt0 e11 (by rw [← ht]; exact tC_b vt) h, Nat.le_refl _, ra, CFs_0, fun J hJ R c ns q rn rs hc hns hq hrn ht2 => ⟨up R MO 14 (nI (tP T N k)), ?_, up_self, RFs_u (by decide)⟩⟩
    rw [f_Mod_statement, inF, if_neg (fun y => h (by rw [← ht]; exact (in50_i vt rs.1).mp y)), Option.bind_some, if_pos rfl, fl J R ns q c rs]
  obtain ⟨g1, g2, g3, g4⟩ := stF t (by omega) h.1
  have n1 : ¬ nI t < 41 := fun y => by have := (nlt (b := 41) (by omega) (by decide)).mp y; omega
  have n2 : nI t ≤ 44 := (nle (b := 44) (by omega) (by decide)).mpr h.2
  have r10 : ∀ (R : IM) (c ns q : Nat), RS T N k c ns q R → R MO 10 = nI (m2r t) := fun R c ns q rs => by rw [rs.1.2.1.1 (by omega), ht]
  have r50 : ∀ (R : IM) (c ns q : Nat), RS T N k c ns q R → (50 ≤ R MO 10 ∧ R MO 10 ≤ 53) := fun R c ns q rs => (in50_i vt rs.1).mpr (by rw [ht]; exact h)
  by_cases z : t = 41
  · have ec : f_Prd_readStatement n pt C = b_Prd_readStatement_64 n pt (nI t) (nI (tP T N k)) C := by
      rw [f_Prd_readStatement, e11, if_neg n1, if_pos n2, if_pos (show nI t = 41 by rw [z]; rfl), e12]
    have er : ∀ (J : JM) (R : IM) (c ns q rn : Nat), RS T N k c ns q R → f_Mod_statement n J (nI rn) R = b_Mod_statement_39 n J (R MO 10) R := fun J R c ns q rn rs => by
      rw [f_Mod_statement, inF, if_pos (r50 R c ns q rs), Option.bind_some, if_neg one0, if_pos (show R MO 10 ≤ 50 by rw [r10 R c ns q rs, z]; decide)]
    rcases st64 hn vt hp iE ra hL hLk h4 ht h.1 h.2 with ⟨C', k', ds, m, b1, b2, b3, b4, b5, b6, b7⟩ | ⟨C', k', b1, b2, b3, b4, b5⟩
    · refine Or.inl ⟨t, tn, C', k', ds, m, ht, h.1, h.2, htn, fun _ => rfl, fun j _ y => by omega, by rw [ec, b1], b2, b3, b4, b5, b6, fun J hJ R c ns q rn rs hc hns hq hrn hrt => ?_⟩
      obtain ⟨R', d1, d2, d3⟩ := b7 J hJ R c ns q rs hc hns hq
      obtain ⟨x1, x2, x3⟩ := toldN rn hrn
      refine ⟨R', rn / 2 * 2 + 1, by rw [er J R c ns q rn rs, d1], x3, by rw [x2]; exact hrt, ?_, d2, d3⟩
      rw [r10 R c ns q rs, g1, z]; exact x1
    · refine Or.inr ⟨C', k', by rw [ec, b1], b2, b3, b4, fun J hJ R c ns q rn rs hc hns hq hrn hrt => ?_⟩
      obtain ⟨R', d1, d2, d3⟩ := b5 J hJ R c ns q rs hc hns hq
      exact ⟨R', by rw [er J R c ns q rn rs, d1], d2, d3⟩
  obtain ⟨j, hj, rfl⟩ : ∃ j, j < 3 ∧ t = 42 + j := ⟨t - 42, by omega, by omega⟩
  have n3 : ¬ nI (42 + j) = 41 := fun y => by have := nij (b := 41) (by omega) (by decide) y; omega
  have e42 : nI (42 + j) - 42 = nI j := by rw [g2, if_neg z, show 42 + j - 42 = j by omega]
  have e50 : nI (m2r (42 + j)) - 50 = nI (j + 1) := by rw [g1, show 42 + j - 41 = j + 1 by omega]
  have nl : ∀ (R : IM) (c ns q : Nat), RS T N k c ns q R → ¬ R MO 10 ≤ 50 := fun R c ns q rs y => by
    rw [r10 R c ns q rs] at y
    have : ∀ j, j < 3 → ¬ nI (m2r (42 + j)) ≤ 50 := by decide
    exact this j hj y
  -- the class's told
  obtain ⟨-, c2, c3⟩ := toldF (2 * tn) (by omega) j hj
  rw [show 2 * tn / 2 = tn by omega] at c2 c3
  by_cases y : tn / 2 ^ j % 2 = 1
  · refine Or.inr ⟨C, k, ?_, Nat.le_refl _, ra, CFs_0, fun J hJ R c ns q rn rs hc hns hq hrn hrt => ⟨up R MO 14 (nI (tP T N k)), ?_, up_self, RFs_u (by decide)⟩⟩
    · rw [f_Prd_readStatement, e11, if_neg n1, if_pos n2, if_neg n3, h4, e42, if_neg (fun w => c2.mp w y)]
    · obtain ⟨d1, -, -⟩ := toldF rn hrn j hj
      rw [f_Mod_statement, inF, if_pos (r50 R c ns q rs), Option.bind_some, if_neg one0, if_neg (nl R c ns q rs), r10 R c ns q rs, e50, if_pos (d1.mpr (by rw [hrt]; exact y)), fl J R ns q c rs]
  obtain ⟨c4, c5, -, -⟩ := c3 y
  have raD : RA T N K k (up C 7 4 (nI (tn + 2 ^ j))) := RA_u ra (by decide)
  have lD : (up C 7 4 (nI (tn + 2 ^ j))) pt 0 = nI L := by rw [fu (by omega)]; exact hL
  have ec : f_Prd_readStatement n pt C = b_Prd_readStatement_64 n pt (nI (42 + j)) (nI (tP T N k)) (up C 7 4 (nI (tn + 2 ^ j))) := by
    rw [f_Prd_readStatement, e11, if_neg n1, if_pos n2, if_neg n3, h4, e42, if_pos (c2.mpr y), c4, e12, lt]
  have er : ∀ (J : JM) (R : IM) (c ns q rn : Nat), rn < 16 → rn / 2 = tn → RS T N k c ns q R → f_Mod_statement n J (nI rn) R = b_Mod_statement_39 n J (R MO 10) R := fun J R c ns q rn hrn hrt rs => by
    obtain ⟨d1, -, -⟩ := toldF rn hrn j hj
    have e10 := r10 R c ns q rs
    rw [f_Mod_statement, inF, if_pos (r50 R c ns q rs), Option.bind_some, if_neg one0, if_neg (nl R c ns q rs), e10, e50, if_neg (fun w => y (by rw [← hrt]; exact d1.mp w))]
  have cf : CFs pt C (up C 7 4 (nI (tn + 2 ^ j))) := ⟨fun b _ z2 _ _ _ => fu z2, fun i _ z2 => up_ne (Or.inr z2)⟩
  rcases st64 hn vt hp iE raD lD hLk up_self ht h.1 h.2 with ⟨C', k', ds, m, b1, b2, b3, b4, b5, b6, b7⟩ | ⟨C', k', b1, b2, b3, b4, b5⟩
  · refine Or.inl ⟨42 + j, tn + 2 ^ j, C', k', ds, m, ht, h.1, h.2, c5, fun w => absurd w z, fun i hi w => ?_, by rw [ec, b1], b2, b3, ⟨b4.1, fun i hi => ?_, b4.2.2.1, b4.2.2.2.1, b4.2.2.2.2.1, ?_, b4.2.2.2.2.2.2.1, CFs_t cf b4.2.2.2.2.2.2.2⟩, b5, b6, fun J hJ R c ns q rn rs hc hns hq hrn hrt => ?_⟩
    · have : i = j := by omega
      subst this
      exact ⟨y, rfl⟩
    · have := b4.2.1 i hi
      rw [fu (by omega), fu (by omega)] at this
      exact this
    · rw [b4.2.2.2.2.2.1, up_ne (Or.inr (by decide))]
    · obtain ⟨R', d1, d2, d3⟩ := b7 J hJ R c ns q rs hc hns hq
      obtain ⟨-, -, x3⟩ := toldF rn hrn j hj
      rw [hrt] at x3
      obtain ⟨-, -, x4, x5⟩ := x3 y
      refine ⟨R', rn + 2 * 2 ^ j, by rw [er J R c ns q rn hrn hrt rs, d1], by omega, x5, ?_, d2, d3⟩
      rw [r10 R c ns q rs, e50]; exact x4
  · refine Or.inr ⟨C', k', by rw [ec, b1], b2, b3, CFs_t cf b4, fun J hJ R c ns q rn rs hc hns hq hrn hrt => ?_⟩
    obtain ⟨R', d1, d2, d3⟩ := b5 J hJ R c ns q rs hc hns hq
    exact ⟨R', by rw [er J R c ns q rn hrn hrt rs, d1], d2, d3⟩
/-- a frame for all statements of rule q -/
def RFy (q : Nat) (R R' : IM) : Prop := (∀ b, b ∉ [102, 106, 107, 108, 109, 110, 111, 115, 116, 117] → R' b = R b) ∧ (∀ j, 1000 ≤ j → R' A_code0 j = R A_code0 j ∧ R' A_codeValue j = R A_codeValue j) ∧ (∀ j, 300 ≤ j → R' A_statementKind j = R A_statementKind j ∧ R' A_statementFrom j = R A_statementFrom j ∧ R' A_statementTo j = R A_statementTo j) ∧ (∀ j, j ≠ q → R' A_named j = R A_named j) ∧ ∀ j, j ∉ [10, 11, 12, 13, 14, 15, 18, 28, 29] → R' MO j = R MO j
theorem RFy_t {q : Nat} {A B C : IM} (h : RFy q A B) (g : RFy q B C) : RFy q A C := ⟨fun b z => (g.1 b z).trans (h.1 b z), fun j z => ⟨(g.2.1 j z).1.trans (h.2.1 j z).1, (g.2.1 j z).2.trans (h.2.1 j z).2⟩, fun j z => ⟨(g.2.2.1 j z).1.trans (h.2.2.1 j z).1, (g.2.2.1 j z).2.1.trans (h.2.2.1 j z).2.1, (g.2.2.1 j z).2.2.trans (h.2.2.1 j z).2.2⟩, fun j z => (g.2.2.2.1 j z).trans (h.2.2.2.1 j z), fun j z => (g.2.2.2.2 j z).trans (h.2.2.2.2 j z)⟩
theorem RFy_0 {q : Nat} {A : IM} : RFy q A A := ⟨fun _ _ => rfl, fun _ _ => ⟨rfl, rfl⟩, fun _ _ => ⟨rfl, rfl, rfl⟩, fun _ _ => rfl, fun _ _ => rfl⟩
theorem RFy_s {ns q : Nat} {A B : IM} (hns : ns < 300) (h : RFs ns q A B) : RFy q A B := ⟨h.1, h.2.1, fun j hj => ⟨(h.2.2.1 j (by omega)).1, (h.2.2.1 j (by omega)).2.2.1, (h.2.2.1 j (by omega)).2.2.2⟩, h.2.2.2.1, h.2.2.2.2⟩
def IA (A : AP) (ns k : Nat) (m : Int32) (tn : Nat) : Prop := AW A ns ∧ aSf A (aNr A) ≤ ns ∧ (∀ s, aSf A (aNr A) ≤ s → s < ns → AD A m s) ∧ tn < 8 ∧ (∀ j, j < 3 → (tn / 2 ^ j % 2 = 1 ↔ ∃ s, aSf A (aNr A) ≤ s ∧ s < ns ∧ aSk A s = nI (51 + j))) ∧ mB m ∧ aCf A ns + ns ≤ k ∧ 3 * ns + 2 ≤ k
def IC (T : Nat → Int32) (N K pt : Nat) (A : AP) (ns k : Nat) (m : Int32) (tn : Nat) (C : IM) : Prop := RA T N K k C ∧ C pt 0 = nI (aCf A ns + ns) ∧ C 7 3 = m ∧ C 7 4 = nI tn ∧ ACs A ns pt C
def IR (T : Nat → Int32) (N : Nat) (A : AP) (ns k : Nat) (m : Int32) (R : IM) : Prop := RS T N k (aCf A ns) ns (aNr A) R ∧ ARs A ns R ∧ R A_named (aNr A) = m
theorem IA_n {A : AP} {ns k k' tn tn' t : Nat} {m m2 pl : Int32} {ds : List CIt} (ia : IA A ns k m tn) (ht1 : 41 ≤ t) (ht2 : t ≤ 44) (htn : tn' < 8) (t1 : t = 41 → tn' = tn) (t2 : ∀ j, j < 3 → t = 42 + j → ¬ tn / 2 ^ j % 2 = 1 ∧ tn' = tn + 2 ^ j) (hk : k + ds.length + 2 ≤ k') (ht : HT m2 33 0 1 ds) (hb : mB m2) : IA (aSA A ns (nI (m2r t)) pl ds) (ns + 1) k' (m ||| m2) tn' := by
  obtain ⟨i1, i2, i3, i4, i5, i6, i7, i8⟩ := ia
  obtain ⟨-, -, -, g4⟩ := stF t (by omega) ht1
  have hd := HT_ne ht
  have e1 : aNr (aSA A ns (nI (m2r t)) pl ds) = aNr A := rfl
  have e2 : aSf (aSA A ns (nI (m2r t)) pl ds) = aSf A := rfl
  refine ⟨?_, ?_, fun s h1 h2 => ?_, htn, fun j hj => ?_, mB_o i6 hb, ?_, by omega⟩
  · rw [g4]; exact AW_n i1 (by omega) hd
  · rw [e1, e2]; omega
  · rw [e1, e2] at h1
    by_cases e : s = ns
    · subst e; exact AD_n ht (fun _ _ => tb_r)
    · exact AD_e i1 AE_s (by omega) (fun _ _ => tb_l) (i3 s h1 (by omega))
  · rw [e1, e2]
    have old : (∃ s, aSf A (aNr A) ≤ s ∧ s < ns + 1 ∧ aSk (aSA A ns (nI (m2r t)) pl ds) s = nI (51 + j)) ↔ (∃ s, aSf A (aNr A) ≤ s ∧ s < ns ∧ aSk A s = nI (51 + j)) ∨ t = 42 + j := by
      refine ⟨?_, ?_⟩
      · rintro ⟨s, h1, h2, h3⟩
        by_cases e : s = ns
        · subst e
          rw [sa_kn, g4] at h3
          have := nij (by omega) (by omega) h3
          exact Or.inr (by omega)
        · rw [sa_sk (by omega)] at h3
          exact Or.inl ⟨s, h1, by omega, h3⟩
      · rintro (⟨s, h1, h2, h3⟩ | h)
        · exact ⟨s, h1, by omega, by rw [sa_sk h2]; exact h3⟩
        · refine ⟨ns, i2, by omega, ?_⟩
          rw [sa_kn, g4, show 50 + (t - 41) = 51 + j by omega]
    rw [old, ← i5 j hj]
    by_cases z : t = 41
    · rw [t1 z]
      exact ⟨fun y => Or.inl y, fun y => y.elim id (fun y => by omega)⟩
    · obtain ⟨y1, y2⟩ := t2 (t - 42) (by omega) (by omega)
      obtain ⟨i, hi⟩ : ∃ i, i = t - 42 := ⟨_, rfl⟩
      rw [← hi] at y1 y2
      have i3' : i < 3 := by omega
      rw [y2, (toldQ tn i4 i i3' j hj).resolve_left y1]
      exact ⟨fun y => y.elim Or.inl (fun y => Or.inr (by omega)), fun y => y.elim Or.inl (fun y => Or.inr (by omega))⟩
  · rw [sa_cn]; omega
theorem te_f {T : Nat → Int32} {N k : Nat} {R : IM} (vt : VT T N) (rb : RB T N k R) : R MO 10 = 199 ↔ tC T N k = 100 := tkE (w := 100) vt rb.2.1 (by decide) (by decide)
theorem in22 : ∀ t ∈ VL, t ≠ 102 → ((0 ≤ nI (m2r t) ∧ nI (m2r t) ≤ 21) ↔ t < 22) := by decide +kernel
theorem in22_i {T : Nat → Int32} {N k : Nat} {R : IM} (vt : VT T N) (rb : RB T N k R) : (0 ≤ R MO 10 ∧ R MO 10 ≤ 21) ↔ tC T N k < 22 := rTest (P := fun x => 0 ≤ x ∧ x ≤ 21) (Q := fun t => t < 22) vt rb in22 (by decide)
/-- a round of the reference's loop -/
theorem l93 {T : Nat → Int32} {N n k f : Nat} {J : JM} {H : IM → Option IM} {x y : Int32} {R R' : IM} (vt : VT T N) (rb : RB T N k R) (h14 : R MO 14 = -1) (h1 : ¬ tC T N k < 22) (h2 : tC T N k ≠ 100) (e : f_Mod_statement n J x R = some R') (hy : (if 41 ≤ tC T N k ∧ tC T N k ≤ 44 then x ||| ((1 : Int32) <<< ((R MO 10 - 50 : Int32) &&& 31)) else x ||| 0) = y) : l_Mod_readPolicy_93 n J H (f + 1) x R = l_Mod_readPolicy_93 n J H f y R' := by
  rw [l_Mod_readPolicy_93, h14, if_neg ng1, f_Mod_tokenIsEnd, if_neg (fun w => h2 ((te_f vt rb).mp w)), Option.bind_some, if_pos rfl, inF, if_neg (fun w => h1 ((in22_i vt rb).mp w)), Option.bind_some, if_pos rfl, inF, Option.bind_some, e, Option.bind_some]
  by_cases z : 41 ≤ tC T N k ∧ tC T N k ≤ 44
  · rw [if_pos z] at hy
    rw [if_pos ((in50_i vt rb).mpr z), if_neg one0, hy]
  · rw [if_neg z] at hy
    rw [if_neg (fun w => z ((in50_i vt rb).mp w)), if_pos rfl, hy]
theorem stL {T : Nat → Int32} {N K n pt : Nat} {J : JM} {x1 x2 : Int32} (hn : 1000 ≤ n) (vt : VT T N) (hp : isPol pt) (iE : SpE T N K n pt J 0 (recP n pt 11).1) : ∀ (d f i k ns : Nat) (A : AP) (m : Int32) (tn : Nat) (C : IM), K - k ≤ d → d < f → i < k → aNr A < 602 → IA A ns k m tn → IC T N K pt A ns k m tn C → (∃ (A' : AP) (ns' k' : Nat) (m' : Int32) (tn' : Nat) (C' : IM), l_Prd_readRule_47 n pt f x1 x2 (nI i) C = b_Prd_readRule_93 n pt x1 x2 C' ∧ (tC T N k' < 22 ∨ tC T N k' = 100) ∧ k + 3 * (ns' - ns) ≤ k' ∧ ns ≤ ns' ∧ aCf A ns ≤ aCf A' ns' ∧ IA A' ns' k' m' tn' ∧ IC T N K pt A' ns' k' m' tn' C' ∧ CFs pt C C' ∧ AE A A' ns ∧ ∀ (J : JM), JOK J → ∀ (R : IM) (rn : Nat), rn < 16 → rn / 2 = tn → IR T N A ns k m R → ∃ (s rn' : Nat) (R' : IM), s + k ≤ k' ∧ (∀ (H : IM → Option IM) (f : Nat), l_Mod_readPolicy_93 n J H (f + s) (nI rn) R = l_Mod_readPolicy_93 n J H f (nI rn') R') ∧ IR T N A' ns' k' m' R' ∧ RFy (aNr A) R R') ∨ (∃ (C' : IM) (k' : Nat), l_Prd_readRule_47 n pt f x1 x2 (nI i) C = some (0, C') ∧ k ≤ k' ∧ RA T N K k' C' ∧ CFs pt C C' ∧ ∀ (J : JM), JOK J → ∀ (R : IM) (rn : Nat), rn < 16 → rn / 2 = tn → IR T N A ns k m R → ∃ (s : Nat) (R' : IM), s + k ≤ k' + 2 ∧ (∀ (H : IM → Option IM) (f : Nat), l_Mod_readPolicy_93 n J H (f + s) (nI rn) R = b_Mod_readPolicy_160 n J H R') ∧ R' MO 14 = nI (tP T N k') ∧ RFy (aNr A) R R') := by
  have p8' := p8 hp
  intro d
  induction d with
  | zero =>
    intro f i k ns A m tn C hd hf hi hq ia ic
    obtain ⟨g, rfl⟩ : ∃ g, f = g + 1 := ⟨f - 1, by omega⟩
    obtain ⟨c1, c2, c3, c4, c5⟩ := id ic
    obtain ⟨kK, K9, hK⟩ := RA_K c1
    have kk : k = K := by omega
    have i9 : ¬ (900 : Int32) ≤ nI i := nk (N := 900) (by omega) (by decide)
    have e11 : C 1 1 = nI (tC T N k) := c1.2.2.2.2.1
    by_cases z : tC T N k = 100
    · refine Or.inl ⟨A, ns, k, m, tn, C, ?_, Or.inr z, by omega, Nat.le_refl _, Nat.le_refl _, ia, ic, CFs_0, AE_0, fun J hJ R rn _ _ ir => ⟨0, rn, R, by omega, fun H f => rfl, ir, RFy_0⟩⟩
      rw [l_Prd_readRule_47, if_neg i9, e11, z, if_neg (by decide), if_pos (by decide)]
    · have z2 : tC T N k = 102 := by rcases hK.1 with y | y <;> rw [← kk] at y
                                     · exact absurd y z
                                     · exact y
      refine Or.inr ⟨C, k, ?_, Nat.le_refl _, c1, CFs_0, fun J hJ R rn hrn hrt ir => ?_⟩
      · rw [l_Prd_readRule_47, if_neg i9, e11, z2, if_neg (by decide), if_neg (by decide), cSt0 (by rw [e11, z2]) (by decide) (by decide), Option.bind_some, if_pos rfl]
      · obtain ⟨⟨rb, h14, h15, h18, h23⟩, -, -⟩ := ir
        have fl : f_Mod_statement n J (nI rn) R = some (up R MO 14 (nI (tP T N k))) := by
          rw [f_Mod_statement, inF, if_neg (fun y => by have := (in50_i vt rb).mp y; omega), Option.bind_some, if_pos rfl, b_Mod_statement_34, rFl rb h14, Option.bind_some]
        refine ⟨2, up R MO 14 (nI (tP T N k)), by omega, fun H f => ?_, up_self, RFy_s (ns := 0) (by decide) (RFs_u (by decide))⟩
        rw [l93 vt rb h14 (by omega) (by omega) fl rfl, l_Mod_readPolicy_93, if_pos (by rw [up_self]; exact (tP_b vt).1)]
  | succ d ih =>
    intro f i k ns A m tn C hd hf hi hq ia ic
    obtain ⟨g, rfl⟩ : ∃ g, f = g + 1 := ⟨f - 1, by omega⟩
    obtain ⟨c1, c2, c3, c4, c5⟩ := id ic
    obtain ⟨i1, i2, i3, i4, i5, i6, i7, i8⟩ := id ia
    obtain ⟨kK, K9, hK⟩ := RA_K c1
    have i9 : ¬ (900 : Int32) ≤ nI i := nk (N := 900) (by omega) (by decide)
    have e11 : C 1 1 = nI (tC T N k) := c1.2.2.2.2.1
    have tb := tC_b (k := k) vt
    by_cases z : tC T N k < 22
    · refine Or.inl ⟨A, ns, k, m, tn, C, ?_, Or.inl z, by omega, Nat.le_refl _, Nat.le_refl _, ia, ic, CFs_0, AE_0, fun J hJ R rn _ _ ir => ⟨0, rn, R, by omega, fun H f => rfl, ir, RFy_0⟩⟩
      rw [l_Prd_readRule_47, if_neg i9, e11, if_pos (show nI (tC T N k) < 22 from (nlt (b := 22) (by omega) (by decide)).mpr z)]
    by_cases z1 : tC T N k = 100
    · refine Or.inl ⟨A, ns, k, m, tn, C, ?_, Or.inr z1, by omega, Nat.le_refl _, Nat.le_refl _, ia, ic, CFs_0, AE_0, fun J hJ R rn _ _ ir => ⟨0, rn, R, by omega, fun H f => rfl, ir, RFy_0⟩⟩
      rw [l_Prd_readRule_47, if_neg i9, e11, z1, if_neg (by decide), if_pos (by decide)]
    have ec : l_Prd_readRule_47 n pt (g + 1) x1 x2 (nI i) C = Option.bind (f_Prd_readStatement n pt C) fun v12 => if (v12.1 : Int32) = 0 then (some (0, v12.2)) else ((l_Prd_readRule_47 n pt g) x1 x2 (nI (i + 1)) v12.2) := by
      rw [l_Prd_readRule_47, if_neg i9, if_neg (by rw [e11]; exact fun y => z ((nlt (b := 22) (by omega) (by decide)).mp y)), if_neg (by rw [e11]; exact fun y => z1 (nij (b := 100) (by omega) (by decide) y)), nk1]
    rcases stm hn vt hp iE c1 c2 i7 c4 i4 with ⟨t, tn', C', k', ds, m2, t1, t2, t3, t4, t5, t6, b1, b2, b3, b4, b5, b6, b7⟩ | ⟨C', k', b1, b2, b3, b4, b5⟩
    · have ia' : IA (aSA A ns (nI (m2r t)) (nI (tP T N k)) ds) (ns + 1) k' (m ||| m2) tn' := IA_n ia t2 t3 t4 t5 t6 b2 b5 b6
      have ht9 := (stF t (by omega) t2).2.2.1
      have ic' : IC T N K pt (aSA A ns (nI (m2r t)) (nI (tP T N k)) ds) (ns + 1) k' (m ||| m2) tn' C' := by
        refine ⟨b3, ?_, ?_, b4.2.2.2.2.2.2.1, ACs_n i1 c5 ht9 b4⟩
        · rw [sa_cn, show aCf A ns + ds.length + (ns + 1) = aCf A ns + ns + ds.length + 1 by omega]; exact b4.1
        · rw [b4.2.2.2.2.2.1, c3]
      have st : ∀ (J : JM), JOK J → ∀ (R : IM) (rn : Nat), rn < 16 → rn / 2 = tn → IR T N A ns k m R → ∃ (rn' : Nat) (R' : IM), rn' < 16 ∧ rn' / 2 = tn' ∧ (∀ (H : IM → Option IM) (f : Nat), l_Mod_readPolicy_93 n J H (f + 1) (nI rn) R = l_Mod_readPolicy_93 n J H f (nI rn') R') ∧ IR T N (aSA A ns (nI (m2r t)) (nI (tP T N k)) ds) (ns + 1) k' (m ||| m2) R' ∧ RFy (aNr A) R R' := fun J hJ R rn hrn hrt ir => by
        obtain ⟨rs, ar, nm⟩ := ir
        obtain ⟨R', rn', d1, d2, d3, d4, d5, d6⟩ := b7 J hJ R (aCf A ns) ns (aNr A) rn rs (by omega) (by omega) hq hrn hrt
        refine ⟨rn', R', d2, d3, fun H f => l93 vt rs.1 rs.2.1 z z1 d1 (by rw [if_pos (by rw [t1]; exact ⟨t2, t3⟩)]; exact d4), ⟨?_, ARs_n ar d6, ?_⟩, RFy_s (ns := ns) (by omega) d6.2.2.2.2.2.2.2⟩
        · rw [sa_cn]; exact d5
        · show R' A_named (aNr A) = _
          rw [d6.2.2.1, nm]
      rcases ih g (i + 1) k' (ns + 1) (aSA A ns (nI (m2r t)) (nI (tP T N k)) ds) (m ||| m2) tn' C' (by omega) (by omega) (by omega) hq ia' ic' with ⟨A', ns', k2, m', tn2, C2, e1, e2, e3, e4, e5, e6, e7, e8, e9, e10⟩ | ⟨C2, k2, e1, e2, e3, e4, e5⟩
      · have hcn : aCf (aSA A ns (nI (m2r t)) (nI (tP T N k)) ds) (ns + 1) = aCf A ns + ds.length := sa_cn
        rw [hcn] at e5
        have hd1 := HT_ne b5
        refine Or.inl ⟨A', ns', k2, m', tn2, C2, ?_, e2, by omega, by omega, by omega, e6, e7, CFs_t b4.2.2.2.2.2.2.2 e8, AE_t (Nat.le_succ _) (by rw [sa_cn]; omega) AE_s e9, fun J hJ R rn hrn hrt ir => ?_⟩
        · rw [ec, b1, Option.bind_some, if_neg one0, e1]
        · obtain ⟨rn', R', d1, d2, d3, d4, d5⟩ := st J hJ R rn hrn hrt ir
          obtain ⟨s, rn2, R2, f1, f2, f3, f4⟩ := e10 J hJ R' rn' d1 d2 d4
          exact ⟨s + 1, rn2, R2, by omega, fun H f => by rw [← Nat.add_assoc, d3, f2], f3, RFy_t d5 f4⟩
      · refine Or.inr ⟨C2, k2, ?_, by omega, e3, CFs_t b4.2.2.2.2.2.2.2 e4, fun J hJ R rn hrn hrt ir => ?_⟩
        · rw [ec, b1, Option.bind_some, if_neg one0, e1]
        · obtain ⟨rn', R', d1, d2, d3, d4, d5⟩ := st J hJ R rn hrn hrt ir
          obtain ⟨s, R2, f1, f2, f3, f4⟩ := e5 J hJ R' rn' d1 d2 d4
          exact ⟨s + 1, R2, by omega, fun H f => by rw [← Nat.add_assoc, d3, f2], f3, RFy_t d5 f4⟩
    · refine Or.inr ⟨C', k', ?_, b2, b3, b4, fun J hJ R rn hrn hrt ir => ?_⟩
      · rw [ec, b1, Option.bind_some, if_pos rfl]
      · obtain ⟨rs, ar, nm⟩ := ir
        obtain ⟨R', d1, d2, d3⟩ := b5 J hJ R (aCf A ns) ns (aNr A) rn rs (by omega) (by omega) hq hrn hrt
        refine ⟨2, R', by omega, fun H f => ?_, d2, RFy_s (ns := ns) (by omega) d3⟩
        rw [l93 vt rs.1 rs.2.1 z z1 d1 rfl, l_Mod_readPolicy_93, if_pos (by rw [d2]; exact (tP_b vt).1)]
