/-! policy: a statement's expression, and what stands around it -/
def OkN (T : Nat → Int32) (N K n pt k L t tn : Nat) (pl : Int32) (D : IM) (F : Option (Int32 × IM)) : Prop := ∃ (C' : IM) (k' : Nat) (ds : List CIt) (m : Int32), F = some (1, C') ∧ k + ds.length + 1 ≤ k' ∧ RA T N K k' C' ∧ CM pt L ds m t pl tn D C' ∧ HT m 33 0 1 ds ∧ mB m ∧ ∀ (J : JM), JOK J → ∀ (R : IM) (c ns q : Nat), RS T N k c ns q R → c ≤ k → ns < 300 → q < 602 → ∃ R', b_Mod_statement_91 n J R = some R' ∧ RS T N k' (c + ds.length) (ns + 1) q R' ∧ BL (RPi2 R') c ds ∧ (∀ j, j < c → R' A_code0 j = R A_code0 j ∧ R' A_codeValue j = R A_codeValue j) ∧ R' A_named q = R A_named q ||| m ∧ R' A_statementTo ns = nI (c + ds.length) ∧ (∀ a, a ∈ [108, 109, 110] → R' a = R a) ∧ RFs ns q R R'
def FaN (T : Nat → Int32) (N K n pt k : Nat) (D : IM) (F : Option (Int32 × IM)) : Prop := ∃ (C' : IM) (k' : Nat), F = some (0, C') ∧ k ≤ k' ∧ RA T N K k' C' ∧ CFs pt D C' ∧ ∀ (J : JM), JOK J → ∀ (R : IM) (c ns q : Nat), RS T N k c ns q R → c ≤ k → ns < 300 → q < 602 → ∃ R', b_Mod_statement_91 n J R = some R' ∧ R' MO 14 = nI (tP T N k') ∧ RFs ns q R R'
/-- the end of a statement whose expression has a fault -/
theorem fa102 {T : Nat → Int32} {N n k k' c ns q : Nat} {J : JM} {R R4 : IM} (vt : VT T N) (rs : RS T N k c ns q R) (hns : ns < 300) (e : f_Mod_expression n J R = some R4) (h14 : R4 MO 14 = nI (tP T N k')) (rf : RFq q R R4) : ∃ R', b_Mod_statement_91 n J R = some R' ∧ R' MO 14 = nI (tP T N k') ∧ RFs ns q R R' := by
  have h18 : R4 MO 18 = nI ns := by rw [rf.2.2.2 18 (by decide)]; exact rs.2.2.2.1
  refine ⟨up (up R4 A_statementTo ns (R4 MO 15)) MO 18 (nI (ns + 1)), ?_, ?_, RFs_t (RFs_q rf) (RFs_t (RFs_s (by decide)) (RFs_u (by decide)))⟩
  · have d1 : (up R4 A_statementTo ns (R4 MO 15)) MO 18 = nI ns := by rw [fu (by decide)]; exact h18
    rw [b_Mod_statement_91, rs.2.1, if_neg ng1, e, Option.bind_some, b_Mod_statement_102, ndF (by rw [h14]; exact (tP_b vt).1), Option.bind_some, h18, chk_i (show inb (nI ns) 600 from nki (by omega) (by decide)), nkc (by omega), lt, d1, nk1, lt]
  · rw [up_ne (Or.inr (by decide)), fu (by decide)]; exact h14
theorem st91 {T : Nat → Int32} {N K n pt k L t tn : Nat} {J : JM} {pl : Int32} {D : IM} (hn : 1000 ≤ n) (vt : VT T N) (hp : isPol pt) (iE : SpE T N K n pt J 0 (recP n pt 11).1) (ra : RA T N K k D) (hL : D pt 0 = nI L) (hLk : L + 1 ≤ k) (h4 : D 7 4 = nI tn) : OkN T N K n pt k L t tn pl D (b_Prd_readStatement_92 n pt (nI t) pl D) ∨ FaN T N K n pt k D (b_Prd_readStatement_92 n pt (nI t) pl D) := by
  have p8' := p8 hp
  have ec : b_Prd_readStatement_92 n pt (nI t) pl D = Option.bind ((recP n pt 11).1 (nI 0) D) fun v12 => if (v12.1 : Int32) = 0 then (some (0, v12.2)) else (Option.bind (f_Pol_append pt (nI t) pl v12.2) fun v15 => Option.bind (f_Rdr_take 187 v15.2) fun v17 => chk ((v17.1 : Int32) = 0 ∨ (v17.1 : Int32) = 1) <| some (v17.1, v17.2)) := rfl
  rcases iE k L D ra hL (by omega) with ⟨C1, k1, ds, m, a1, a2, a3, a4, a5, a6, a7, a8, a9, a10⟩ | ⟨C1, k1, a1, a2, a3, a4, a5⟩
  rotate_left
  · have K9 := (RA_K a3).2.1
    have kK := (RA_K a3).1
    refine Or.inr ⟨C1, k1, ?_, a2, a3, CFs_p a4, fun J hJ R c ns q rs hc hns hq => ?_⟩
    · rw [ec, a1, Option.bind_some, if_pos rfl]
    · obtain ⟨hr, nS, nC⟩ := exH rs hc hq
      obtain ⟨s, R4, b1, b2, b3, b4⟩ := a5 J hJ _ 0 c q hr nS nC
      obtain ⟨e1, e2⟩ := exF (T := T) (N := N) hn (by omega) b1 b2 b4
      exact fa102 vt rs hns e1 b3 e2
  obtain ⟨kK, K9, hK⟩ := RA_K a4
  have ap := apC2 (pt := pt) (L := L + ds.length) (C := C1) (x1 := nI t) (x2 := pl) (by omega) a5.1
  obtain ⟨C2, hC2⟩ : ∃ C2, C2 = up (up (up C1 (pt + 1) (L + ds.length) (nI t)) (pt + 2) (L + ds.length) pl) pt 0 (nI (L + ds.length + 1)) := ⟨_, rfl⟩
  rw [← hC2] at ap
  have ra2 : RA T N K k1 C2 := by rw [hC2]; exact RA_ap p8'.1 a4
  have o2 : ∀ b, b ≠ pt → b ≠ pt + 1 → b ≠ pt + 2 → C2 b = C1 b := fun b z1 z2 z3 => by rw [hC2, fu z1, fu z3, fu z2]
  have cf2 : CFs pt C1 C2 := ⟨fun b _ _ z1 z2 z3 => o2 b z1 z2 z3, fun j _ _ => by rw [o2 7 (by omega) (by omega) (by omega)]⟩
  by_cases z : tC T N k1 = 187
  rotate_left
  · refine Or.inr ⟨C2, k1, ?_, by omega, ra2, CFs_t (CFs_p a5.2.2.2.2) cf2, fun J hJ R c ns q rs hc hns hq => ?_⟩
    · rw [ec, a1, Option.bind_some, if_neg one0, ap, Option.bind_some, show f_Rdr_take 187 C2 = some (0, C2) from tk_0 (w := 187) vt ra2 (by decide) z, Option.bind_some, chk0]
    · obtain ⟨hr, nS, nC⟩ := exH rs hc hq
      have tp : tpR (up (up R MO 29 0) MO 28 0) 0 = -1 := by rw [tpR, if_pos rfl]
      obtain ⟨s, R4, b1, b2, b3, b4⟩ := eoF hn vt (by omega) (by omega) (a10 J hJ _ 0 c q hr nS nC) a8 a9 tp (by decide) (fun w => absurd w.2 (by decide)) (fun w => absurd w.2 (by decide)) (fun _ w => absurd w (by decide)) (fun w => z w.2)
      obtain ⟨e1, e2⟩ := exF (T := T) (N := N) hn (by omega) b1 b2 b4
      exact fa102 vt rs hns e1 b3 e2
  obtain ⟨C3, b1, b2, b3⟩ := tk_1 (w := 187) vt ra2 z (by decide) (by decide)
  have o3 : ∀ b, b ≠ 1 → b ≠ pt → b ≠ pt + 1 → b ≠ pt + 2 → C3 b = C1 b := fun b z0 z1 z2 z3 => by rw [b3 b z0, o2 b z1 z2 z3]
  have e1 : ∀ j, j < L + ds.length → C3 (pt + 1) j = C1 (pt + 1) j ∧ C3 (pt + 2) j = C1 (pt + 2) j := fun j hj => by
    rw [b3 (pt + 1) (by omega), b3 (pt + 2) (by omega), hC2]
    refine ⟨?_, ?_⟩
    · rw [fu (by omega), fu (by omega), up_ne (Or.inr (by omega))]
    · rw [fu (by omega), up_ne (Or.inr (by omega)), fu (by omega)]
  refine Or.inl ⟨C3, k1 + 1, ds, m, ?_, by omega, b2, ⟨?_, fun j hj => ?_, BL_m (fun j d _ hj y => ?_) a5.2.2.1, ?_, ?_, ?_, ?_, CFs_t (CFs_t (CFs_p a5.2.2.2.2) cf2) (CFs_p (CF_1 b3))⟩, HT_M (by omega) a6, a7, fun J hJ R c ns q rs hc hns hq => ?_⟩
  · rw [ec, a1, Option.bind_some, if_neg one0, ap, Option.bind_some, show f_Rdr_take 187 C2 = some (1, C3) from b1, Option.bind_some, chk1]
  · rw [b3 pt (by omega), hC2, up_self]
  · rw [(e1 j (by omega)).1, (e1 j (by omega)).2]; exact a5.2.1 j hj
  · unfold CPi
    rw [(e1 j hj).1, (e1 j hj).2]; exact y
  · rw [b3 _ (by omega), hC2, fu (by omega), fu (by omega), up_self]
  · rw [b3 _ (by omega), hC2, fu (by omega), up_self]
  · rw [o3 7 (by omega) (by omega) (by omega) (by omega)]; exact a5.2.2.2.1
  · rw [o3 7 (by omega) (by omega) (by omega) (by omega), a5.2.2.2.2.2 4 (by decide)]; exact h4
  · obtain ⟨hr, nS, nC⟩ := exH rs hc hq
    obtain ⟨R4, d1, d2, d3⟩ := exG hn vt (by omega) rs (a10 J hJ _ 0 c q hr nS nC) z
    obtain ⟨R5, f1, f2, f3, f4⟩ := nd1 (n := n) (s := 59) hJ hn vt d2.1 d2.2.1 (by decide) z
    have rs5 := RS_a d2 f2 f4
    have f3' : ∀ b, b ≠ 102 → R5 b = R4 b := f3
    obtain ⟨R6, hR6⟩ : ∃ R6, R6 = up (up R5 A_statementTo ns (nI (c + ds.length))) MO 18 (nI (ns + 1)) := ⟨_, rfl⟩
    have o6 : ∀ b, b ≠ 102 → b ≠ 111 → R6 b = R4 b := fun b z1 z2 => by rw [hR6, fu z1, fu z2, f3' b z1]
    have j6 : ∀ j, j ≠ 18 → R6 MO j = R5 MO j := fun j hj => by rw [hR6, up_ne (Or.inr hj), fu (by decide)]
    have d15 : (up R5 A_statementTo ns (nI (c + ds.length))) MO 18 = nI ns := by rw [fu (by decide)]; exact rs5.2.2.2.1
    refine ⟨R6, ?_, ⟨?_, ?_, ?_, ?_, ?_⟩, ?_, fun j hj => ?_, ?_, ?_, fun a ha => ?_, ?_⟩
    · rw [b_Mod_statement_91, rs.2.1, if_neg ng1, d1, Option.bind_some, b_Mod_statement_102, show f_Mod_need n J 59 R4 = some R5 from f1, Option.bind_some, rs5.2.2.2.1, chk_i (show inb (nI ns) 600 from nki (by omega) (by decide)), nkc (by omega), rs5.2.2.1, lt, d15, nk1, lt, hR6]
    · exact RB_c rs5.1 (fun j hj => j6 j (fun y => by rw [y] at hj; revert hj; decide)) (by rw [hR6, fu (by decide), fu (by decide)])
    · rw [j6 14 (by decide)]; exact rs5.2.1
    · rw [j6 15 (by decide)]; exact rs5.2.2.1
    · rw [hR6, up_self]
    · rw [j6 23 (by decide)]; exact rs5.2.2.2.2
    · refine BL_m (fun j d _ _ y => ?_) d3.1
      unfold RPi2
      rw [o6 A_code0 (by decide) (by decide), o6 A_codeValue (by decide) (by decide)]; exact y
    · rw [o6 A_code0 (by decide) (by decide), o6 A_codeValue (by decide) (by decide)]; exact d3.2.1 j hj
    · rw [o6 A_named (by decide) (by decide)]; exact d3.2.2.1
    · rw [hR6, fu (by decide), up_self]
    · have s : ∀ a, a ∈ [108, 109, 110] → a ≠ 102 ∧ a ≠ 111 ∧ a ≠ 106 ∧ a ≠ 107 ∧ a ≠ 115 ∧ a ≠ 116 ∧ a ≠ 117 := by decide
      obtain ⟨s1, s2, s3, s4, s5, s6, s7⟩ := s a ha
      rw [o6 a s1 s2]
      exact d3.2.2.2.2.1 a s1 s3 s4 s5 s6 s7
    · rw [hR6]
      exact RFs_t (RFs_q d3.2.2.2.2) (RFs_t (RFs_a f3 f4) (RFs_t (RFs_s (by decide)) (RFs_u (by decide))))
theorem HT_ne {m : Int32} {M : Nat} {ds : List CIt} (h : HT m M 0 1 ds) : 0 < ds.length := by
  obtain ⟨dp, a, b, -⟩ := h
  rcases Nat.eq_zero_or_pos ds.length with e | e
  · rw [e] at b; omega
  · exact e
/-- the reference takes down a statement's word -/
theorem st39 {T : Nat → Int32} {N n k t c ns q : Nat} {J : JM} {R : IM} (hJ : JOK J) (hn : 1000 ≤ n) (vt : VT T N) (ht : tC T N k = t) (ht1 : 41 ≤ t) (ht2 : t ≤ 44) (rs : RS T N k c ns q R) (hns : ns < 300) : ∃ R2, b_Mod_statement_39 n J (R MO 10) R = (if t = 41 then b_Mod_statement_91 n J R2 else Option.bind (f_Mod_need n J 61 R2) fun v15 => b_Mod_statement_91 n J v15) ∧ RS T N (k + 1) c ns q R2 ∧ R2 A_statementKind ns = nI (m2r t) ∧ R2 A_statementAt ns = nI (tP T N k) ∧ R2 A_statementFrom ns = nI c ∧ (∀ a, a ∈ [106, 107, 115] → R2 a = R a) ∧ RFs ns q R R2 := by
  obtain ⟨rb, h14, h15, h18, h23⟩ := id rs
  have h10 : R MO 10 = nI (m2r t) := by rw [rb.2.1.1 (by omega), ht]
  obtain ⟨R1, hR1⟩ : ∃ R1, R1 = up (up (up R A_statementKind ns (nI (m2r t))) A_statementAt ns (nI (tP T N k))) A_statementFrom ns (nI c) := ⟨_, rfl⟩
  have m1 : R1 MO = R MO := by rw [hR1, fu (by decide), fu (by decide), fu (by decide)]
  have rb1 : RB T N k R1 := RB_c rb (fun j _ => by rw [m1]) (by rw [hR1, fu (by decide), fu (by decide), fu (by decide)])
  obtain ⟨R2, a1, a2, a3, a4⟩ := adR (n := n) hJ hn vt rb1
  have a3' : ∀ b, b ≠ 102 → R2 b = R1 b := a3
  have ins : inb (nI ns) 600 := nki (by omega) (by decide)
  have ins3 : inb (nI ns) 300 := nki (by omega) (by decide)
  have i1 : (up R A_statementKind ns (nI (m2r t))) MO 18 = nI ns := by rw [fu (by decide)]; exact h18
  have i1' : (up R A_statementKind ns (nI (m2r t))) MO 12 = nI (tP T N k) := by rw [fu (by decide)]; exact rb.2.2.1
  have i2 : (up (up R A_statementKind ns (nI (m2r t))) A_statementAt ns (nI (tP T N k))) MO 18 = nI ns := by rw [fu (by decide)]; exact i1
  have i2' : (up (up R A_statementKind ns (nI (m2r t))) A_statementAt ns (nI (tP T N k))) MO 15 = nI c := by rw [fu (by decide), fu (by decide)]; exact h15
  have e50 : nI (m2r t) ≤ 50 ↔ t = 41 := by
    have : ∀ t, t < 45 → 41 ≤ t → (nI (m2r t) ≤ 50 ↔ t = 41) := by decide
    exact this t (by omega) ht1
  have s : ∀ a, a ∈ [106, 107, 115] → a ≠ 102 ∧ a ≠ 108 ∧ a ≠ 109 ∧ a ≠ 110 := by decide
  refine ⟨R2, ?_, ⟨a2, ?_, ?_, ?_, ?_⟩, ?_, ?_, ?_, fun a ha => ?_, ?_⟩
  · rw [h10, b_Mod_statement_39, h18, chk_i ins, nkc (by omega), lt, i1, chk_i ins3, nkc (by omega), i1', lt, i2, chk_i ins, nkc (by omega), i2', lt, ← hR1, a1, Option.bind_some]
    by_cases z : t = 41
    · rw [if_pos (e50.mpr z), if_pos z]
    · rw [if_neg (fun y => z (e50.mp y)), if_neg z]
  · rw [a4 14 (by decide) (by decide) (by decide) (by decide), m1]; exact h14
  · rw [a4 15 (by decide) (by decide) (by decide) (by decide), m1]; exact h15
  · rw [a4 18 (by decide) (by decide) (by decide) (by decide), m1]; exact h18
  · rw [a4 23 (by decide) (by decide) (by decide) (by decide), m1]; exact h23
  · rw [a3' _ (by decide), hR1, fu (by decide), fu (by decide), up_self]
  · rw [a3' _ (by decide), hR1, fu (by decide), up_self]
  · rw [a3' _ (by decide), hR1, up_self]
  · obtain ⟨s1, s2, s3, s4⟩ := s a ha
    rw [a3' a s1, hR1, fu s4, fu s3, fu s2]
  · refine RFs_t ?_ (RFs_a a3 a4)
    rw [hR1]
    exact RFs_t (RFs_s (by decide)) (RFs_t (RFs_s (by decide)) (RFs_s (by decide)))
theorem st64 {T : Nat → Int32} {N K n pt k L t tn : Nat} {J : JM} {D : IM} (hn : 1000 ≤ n) (vt : VT T N) (hp : isPol pt) (iE : SpE T N K n pt J 0 (recP n pt 11).1) (ra : RA T N K k D) (hL : D pt 0 = nI L) (hLk : L ≤ k) (h4 : D 7 4 = nI tn) (ht : tC T N k = t) (ht1 : 41 ≤ t) (ht2 : t ≤ 44) : OkM T N K n pt k L t tn D (b_Prd_readStatement_64 n pt (nI t) (nI (tP T N k)) D) ∨ FaM T N K n pt k D (b_Prd_readStatement_64 n pt (nI t) (nI (tP T N k)) D) := by
  have p8' := p8 hp
  obtain ⟨kK, K9, hK⟩ := RA_K ra
  have kl : k < K := kltK hK kK (by omega) (by omega)
  obtain ⟨C1, a1, a2, a3⟩ := adC vt ra kl
  have e41 : nI t = 41 ↔ t = 41 := ⟨fun y => nij (b := 41) (by omega) (by decide) y, fun y => by rw [y]; rfl⟩
  -- from where the expression begins
  have main : ∀ (ke : Nat) (C2 : IM), k < ke → RA T N K ke C2 → (∀ b, b ≠ 1 → C2 b = D b) → b_Prd_readStatement_64 n pt (nI t) (nI (tP T N k)) D = b_Prd_readStatement_92 n pt (nI t) (nI (tP T N k)) C2 → (∀ (J : JM), JOK J → ∀ (R : IM) (c ns q : Nat), RS T N k c ns q R → ns < 300 → ∃ R3, b_Mod_statement_39 n J (R MO 10) R = b_Mod_statement_91 n J R3 ∧ RS T N ke c ns q R3 ∧ R3 A_statementKind ns = nI (m2r t) ∧ R3 A_statementAt ns = nI (tP T N k) ∧ R3 A_statementFrom ns = nI c ∧ (∀ a, a ∈ [106, 107, 115] → R3 a = R a) ∧ RFs ns q R R3) → OkM T N K n pt k L t tn D (b_Prd_readStatement_64 n pt (nI t) (nI (tP T N k)) D) ∨ FaM T N K n pt k D (b_Prd_readStatement_64 n pt (nI t) (nI (tP T N k)) D) := fun ke C2 hke rae oe ec er => by
    have ce : C2 pt 0 = nI L := by rw [oe pt (by omega)]; exact hL
    rcases st91 (t := t) (pl := nI (tP T N k)) hn vt hp iE rae ce (by omega) (by rw [oe 7 (by decide)]; exact h4) with ⟨C', k', ds, m, b1, b2, b3, b4, b5, b6, b7⟩ | ⟨C', k', b1, b2, b3, b4, b5⟩
    · refine Or.inl ⟨C', k', ds, m, by rw [ec, b1], by omega, b3, ⟨b4.1, fun j hj => ?_, b4.2.2.1, b4.2.2.2.1, b4.2.2.2.2.1, ?_, b4.2.2.2.2.2.2.1, CFs_t (CFs_p (CF_1 oe)) b4.2.2.2.2.2.2.2⟩, b5, b6, fun J hJ R c ns q rs hc hns hq => ?_⟩
      · rw [← oe (pt + 1) (by omega), ← oe (pt + 2) (by omega)]; exact b4.2.1 j hj
      · rw [b4.2.2.2.2.2.1, oe 7 (by decide)]
      · obtain ⟨R3, d1, d2, d3, d4, d5, d6, d7⟩ := er J hJ R c ns q rs hns
        obtain ⟨R', f1, f2, f3, f4, f5, f6, f7, f8⟩ := b7 J hJ R3 c ns q d2 (by omega) hns hq
        refine ⟨R', by rw [d1, f1], f2, f3, fun j hj => ?_, ?_, ?_, ?_, ?_, f6, RFs_t d7 f8⟩
        · rw [← d6 106 (by decide), ← d6 107 (by decide)]; exact f4 j hj
        · rw [f5, d6 115 (by decide)]
        · rw [f7 108 (by decide)]; exact d3
        · rw [f7 109 (by decide)]; exact d4
        · rw [f7 110 (by decide)]; exact d5
    · refine Or.inr ⟨C', k', by rw [ec, b1], by omega, b3, CFs_t (CFs_p (CF_1 oe)) b4, fun J hJ R c ns q rs hc hns hq => ?_⟩
      obtain ⟨R3, d1, d2, d3, d4, d5, d6, d7⟩ := er J hJ R c ns q rs hns
      obtain ⟨R', f1, f2, f3⟩ := b5 J hJ R3 c ns q d2 (by omega) hns hq
      exact ⟨R', by rw [d1, f1], f2, RFs_t d7 f3⟩
  by_cases z : t = 41
  · refine main (k + 1) C1 (by omega) a2 a3 ?_ (fun J hJ R c ns q rs hns => ?_)
    · rw [b_Prd_readStatement_64, a1, Option.bind_some, if_pos (e41.mpr z)]
    · obtain ⟨R2, d1, d⟩ := st39 (n := n) hJ hn vt ht ht1 ht2 rs hns
      exact ⟨R2, by rw [d1, if_pos z], d⟩
  by_cases y : tC T N (k + 1) = 189
  · obtain ⟨C2, b1, b2, b3⟩ := tk_1 (w := 189) vt a2 y (by decide) (by decide)
    refine main (k + 2) C2 (by omega) b2 (fun b hb => by rw [b3 b hb, a3 b hb]) ?_ (fun J hJ R c ns q rs hns => ?_)
    · rw [b_Prd_readStatement_64, a1, Option.bind_some, if_neg (fun w => z (e41.mp w)), show f_Rdr_take 189 C1 = some (1, C2) from b1, Option.bind_some, if_neg one0]
    · obtain ⟨R2, d1, d2, d3, d4, d5, d6, d7⟩ := st39 (n := n) hJ hn vt ht ht1 ht2 rs hns
      obtain ⟨R3, f1, f2, f3, f4⟩ := nd1 (n := n) (s := 61) hJ hn vt d2.1 d2.2.1 (by decide) y
      have f3' : ∀ b, b ≠ 102 → R3 b = R2 b := f3
      have s : ∀ a, a ∈ [106, 107, 115] → a ≠ 102 := by decide
      refine ⟨R3, ?_, RS_a d2 f2 f4, by rw [f3' _ (by decide)]; exact d3, by rw [f3' _ (by decide)]; exact d4, by rw [f3' _ (by decide)]; exact d5, fun a ha => by rw [f3' a (s a ha)]; exact d6 a ha, RFs_t d7 (RFs_a f3 f4)⟩
      rw [d1, if_neg z, show f_Mod_need n J 61 R2 = some R3 from f1, Option.bind_some]
  · refine Or.inr ⟨C1, k + 1, ?_, by omega, a2, CFs_p (CF_1 a3), fun J hJ R c ns q rs hc hns hq => ?_⟩
    · rw [b_Prd_readStatement_64, a1, Option.bind_some, if_neg (fun w => z (e41.mp w)), show f_Rdr_take 189 C1 = some (0, C1) from tk_0 (w := 189) vt a2 (by decide) y, Option.bind_some, if_pos rfl]
    · obtain ⟨R2, d1, d2, d3, d4, d5, d6, d7⟩ := st39 (n := n) hJ hn vt ht ht1 ht2 rs hns
      have h0 := (tP_b (k := k + 1) vt).1
      obtain ⟨R3, hR3⟩ : ∃ R3, R3 = up R2 MO 14 (nI (tP T N (k + 1))) := ⟨_, rfl⟩
      have r14 : R3 MO 14 = nI (tP T N (k + 1)) := by rw [hR3, up_self]
      have r18 : R3 MO 18 = nI ns := by rw [hR3, up_ne (Or.inr (by decide))]; exact d2.2.2.2.1
      have g1 : (up R3 A_statementTo ns (R3 MO 15)) MO 18 = nI ns := by rw [fu (by decide)]; exact r18
      refine ⟨up (up R3 A_statementTo ns (R3 MO 15)) MO 18 (nI (ns + 1)), ?_, ?_, RFs_t d7 (RFs_t (by rw [hR3]; exact RFs_u (by decide)) (RFs_t (RFs_s (by decide)) (RFs_u (by decide))))⟩
      · rw [d1, if_neg z, show f_Mod_need n J 61 R2 = some R3 from by rw [hR3]; exact nd0 (s := 61) vt d2.1 d2.2.1 (by decide) y, Option.bind_some, b_Mod_statement_91, if_pos (by rw [r14]; exact h0), b_Mod_statement_102, ndF (by rw [r14]; exact h0), Option.bind_some, r18, chk_i (show inb (nI ns) 600 from nki (by omega) (by decide)), nkc (by omega), lt, g1, nk1, lt]
      · rw [up_ne (Or.inr (by decide)), fu (by decide)]; exact r14
