/-! policy: a statement -/
def CFs (pt : Nat) (C C' : IM) : Prop := (∀ b, b ≠ 1 → b ≠ 7 → b ≠ pt → b ≠ pt + 1 → b ≠ pt + 2 → C' b = C b) ∧ ∀ j, j ≠ 3 → j ≠ 4 → C' 7 j = C 7 j
theorem CFs_t {pt : Nat} {A B C : IM} (h : CFs pt A B) (g : CFs pt B C) : CFs pt A C := ⟨fun b z1 z2 z3 z4 z5 => (g.1 b z1 z2 z3 z4 z5).trans (h.1 b z1 z2 z3 z4 z5), fun j z w => (g.2 j z w).trans (h.2 j z w)⟩
theorem CFs_p {pt : Nat} {A B : IM} (h : CFp pt A B) : CFs pt A B := ⟨h.1, fun j z _ => h.2 j z⟩
theorem CFs_0 {pt : Nat} {A : IM} : CFs pt A A := ⟨fun _ _ _ _ _ _ => rfl, fun _ _ _ => rfl⟩
def RFs (ns q : Nat) (R R' : IM) : Prop := (∀ b, b ∉ [102, 106, 107, 108, 109, 110, 111, 115, 116, 117] → R' b = R b) ∧ (∀ j, 1000 ≤ j → R' A_code0 j = R A_code0 j ∧ R' A_codeValue j = R A_codeValue j) ∧ (∀ j, j ≠ ns → R' A_statementKind j = R A_statementKind j ∧ R' A_statementAt j = R A_statementAt j ∧ R' A_statementFrom j = R A_statementFrom j ∧ R' A_statementTo j = R A_statementTo j) ∧ (∀ j, j ≠ q → R' A_named j = R A_named j) ∧ ∀ j, j ∉ [10, 11, 12, 13, 14, 15, 18, 28, 29] → R' MO j = R MO j
theorem RFs_t {ns q : Nat} {A B C : IM} (h : RFs ns q A B) (g : RFs ns q B C) : RFs ns q A C := ⟨fun b z => (g.1 b z).trans (h.1 b z), fun j z => ⟨(g.2.1 j z).1.trans (h.2.1 j z).1, (g.2.1 j z).2.trans (h.2.1 j z).2⟩, fun j z => ⟨(g.2.2.1 j z).1.trans (h.2.2.1 j z).1, (g.2.2.1 j z).2.1.trans (h.2.2.1 j z).2.1, (g.2.2.1 j z).2.2.1.trans (h.2.2.1 j z).2.2.1, (g.2.2.1 j z).2.2.2.trans (h.2.2.1 j z).2.2.2⟩, fun j z => (g.2.2.2.1 j z).trans (h.2.2.2.1 j z), fun j z => (g.2.2.2.2 j z).trans (h.2.2.2.2 j z)⟩
theorem RFs_q {ns q : Nat} {A B : IM} (h : RFq q A B) : RFs ns q A B := by
  have e : ∀ b, b ≠ 102 → b ≠ 106 → b ≠ 107 → b ≠ 115 → b ≠ 116 → b ≠ 117 → B b = A b := h.1
  refine ⟨fun b z => ?_, h.2.1, fun j _ => ?_, h.2.2.1, fun j z => h.2.2.2 j (fun y => z ?_)⟩
  · simp only [List.mem_cons, List.not_mem_nil, or_false, not_or] at z
    exact e b z.1 z.2.1 z.2.2.1 z.2.2.2.2.2.2.2.1 z.2.2.2.2.2.2.2.2.1 z.2.2.2.2.2.2.2.2.2
  · rw [e A_statementKind (by decide) (by decide) (by decide) (by decide) (by decide) (by decide), e A_statementAt (by decide) (by decide) (by decide) (by decide) (by decide) (by decide), e A_statementFrom (by decide) (by decide) (by decide) (by decide) (by decide) (by decide), e A_statementTo (by decide) (by decide) (by decide) (by decide) (by decide) (by decide)]
    exact ⟨rfl, rfl, rfl, rfl⟩
  · revert y
    simp only [List.mem_cons, List.not_mem_nil, or_false]
    omega
theorem RFs_u {ns q j : Nat} {A : IM} {v : Int32} (h : j ∈ [10, 11, 12, 13, 14, 15, 18, 28, 29]) : RFs ns q A (up A MO j v) := by
  have e : ∀ b, b ≠ 102 → (up A MO j v) b = A b := fun b z => fu z
  refine ⟨fun b z => e b (fun y => z (by rw [y]; decide)), fun j _ => ?_, fun j _ => ?_, fun j _ => ?_, fun i z => up_ne (Or.inr (fun y => z (by rw [y]; exact h)))⟩
  · rw [e _ (by decide), e A_codeValue (by decide)]; exact ⟨rfl, rfl⟩
  · rw [e _ (by decide), e A_statementAt (by decide), e A_statementFrom (by decide), e A_statementTo (by decide)]; exact ⟨rfl, rfl, rfl, rfl⟩
  · rw [e _ (by decide)]
theorem RFs_s {ns q a : Nat} {A : IM} {v : Int32} (h : a ∈ [108, 109, 110, 111]) : RFs ns q A (up A a ns v) := by
  have s : ∀ a, a ∈ [108, 109, 110, 111] → a ∈ [102, 106, 107, 108, 109, 110, 111, 115, 116, 117] ∧ a ≠ 102 ∧ a ≠ 106 ∧ a ≠ 107 ∧ a ≠ 115 := by decide
  obtain ⟨s1, s2, s3, s4, s5⟩ := s a h
  refine ⟨fun b z => fu (fun y => z (by rw [y]; exact s1)), fun j _ => ⟨?_, ?_⟩, fun j z => ⟨up_ne (Or.inr z), up_ne (Or.inr z), up_ne (Or.inr z), up_ne (Or.inr z)⟩, fun j _ => ?_, fun j _ => ?_⟩
  · rw [fu (fun y => s3 y.symm)]
  · rw [fu (fun y => s4 y.symm)]
  · rw [fu (fun y => s5 y.symm)]
  · rw [fu (fun y => s2 y.symm)]
/-- the reference between two statements -/
def RS (T : Nat → Int32) (N k c ns q : Nat) (R : IM) : Prop := RB T N k R ∧ R MO 14 = -1 ∧ R MO 15 = nI c ∧ R MO 18 = nI ns ∧ R MO 23 = nI q
theorem ndF {n : Nat} {J : JM} {x : Int32} {R : IM} (h : 0 ≤ R MO 14) : f_Mod_need n J x R = some R := by
  rw [f_Mod_need, if_pos h, b_Mod_need_19, if_pos h, b_Mod_need_30]
theorem nd0 {T : Nat → Int32} {N n k s : Nat} {J : JM} {R : IM} (vt : VT T N) (rb : RB T N k R) (h14 : R MO 14 = -1) (hs : s ∈ sgL) (h : tC T N k ≠ 128 + s) : f_Mod_need n J (nI s) R = some (up R MO 14 (nI (tP T N k))) := by
  rw [f_Mod_need, h14, if_neg ng1, is_0 vt rb hs h, Option.bind_some, if_pos rfl, rFl rb h14, Option.bind_some, b_Mod_need_19, up_self, if_pos (tP_b vt).1, b_Mod_need_30]
theorem nd1 {T : Nat → Int32} {N n k s : Nat} {J : JM} {R : IM} (hJ : JOK J) (hn : 1000 ≤ n) (vt : VT T N) (rb : RB T N k R) (h14 : R MO 14 = -1) (hs : s ∈ sgL) (h : tC T N k = 128 + s) : ∃ R', f_Mod_need n J (nI s) R = some R' ∧ RB T N (k + 1) R' ∧ (∀ b, b ≠ MO → R' b = R b) ∧ ∀ j, j ≠ 10 → j ≠ 11 → j ≠ 12 → j ≠ 13 → R' MO j = R MO j := by
  obtain ⟨R', a1, a2, a3, a4⟩ := adR (n := n) hJ hn vt rb
  refine ⟨R', ?_, a2, a3, a4⟩
  rw [f_Mod_need, h14, if_neg ng1, is_1 vt rb hs h, Option.bind_some, if_neg one0, b_Mod_need_19, h14, if_neg ng1, a1, Option.bind_some, b_Mod_need_30]
theorem RS_a {T : Nat → Int32} {N k k' c ns q : Nat} {R R' : IM} (h : RS T N k c ns q R) (rb : RB T N k' R') (e : ∀ j, j ≠ 10 → j ≠ 11 → j ≠ 12 → j ≠ 13 → R' MO j = R MO j) : RS T N k' c ns q R' := ⟨rb, by rw [e 14 (by decide) (by decide) (by decide) (by decide)]; exact h.2.1, by rw [e 15 (by decide) (by decide) (by decide) (by decide)]; exact h.2.2.1, by rw [e 18 (by decide) (by decide) (by decide) (by decide)]; exact h.2.2.2.1, by rw [e 23 (by decide) (by decide) (by decide) (by decide)]; exact h.2.2.2.2⟩
theorem RFs_a {ns q : Nat} {R R' : IM} (h : ∀ b, b ≠ MO → R' b = R b) (e : ∀ j, j ≠ 10 → j ≠ 11 → j ≠ 12 → j ≠ 13 → R' MO j = R MO j) : RFs ns q R R' := by
  have e1 : ∀ b, b ≠ 102 → R' b = R b := h
  refine ⟨fun b z => e1 b (fun y => z (by rw [y]; decide)), fun j _ => ?_, fun j _ => ?_, fun j _ => ?_, fun i z => ?_⟩
  · rw [e1 _ (by decide), e1 A_codeValue (by decide)]; exact ⟨rfl, rfl⟩
  · rw [e1 _ (by decide), e1 A_statementAt (by decide), e1 A_statementFrom (by decide), e1 A_statementTo (by decide)]; exact ⟨rfl, rfl, rfl, rfl⟩
  · rw [e1 _ (by decide)]
  · simp only [List.mem_cons, List.not_mem_nil, or_false, not_or] at z
    exact e i z.1 z.2.1 z.2.2.1 z.2.2.2.1
/-- an expression that stands in a statement -/
theorem exH {T : Nat → Int32} {N k c ns q : Nat} {R : IM} (h : RS T N k c ns q R) (hc : c ≤ k) (hq : q < 602) : HR T N k 0 [] 0 c q (up (up R MO 29 0) MO 28 0) ∧ ¬ bS (tpR (up (up R MO 29 0) MO 28 0) 0) ∧ ¬ bC (tpR (up (up R MO 29 0) MO 28 0) 0) := by
  obtain ⟨rb, h14, h15, h18, h23⟩ := h
  have e : tpR (up (up R MO 29 0) MO 28 0) 0 = -1 := by rw [tpR, if_pos rfl]
  rw [e]
  have v : ¬ bU (-1 : Int32) ∧ ¬ bS (-1 : Int32) ∧ ¬ bC (-1 : Int32) := by decide
  refine ⟨HR_0 ⟨RB_u (RB_u rb (by decide)) (by decide), ?_, up_self, ?_, ?_, ?_⟩ (by rw [e]; exact v.1) hc (Nat.zero_le _) hq, v.2.1, v.2.2⟩
  · rw [up_ne (Or.inr (by decide)), up_ne (Or.inr (by decide))]; exact h14
  · rw [up_ne (Or.inr (by decide)), up_self]; rfl
  · rw [up_ne (Or.inr (by decide)), up_ne (Or.inr (by decide))]; exact h15
  · rw [up_ne (Or.inr (by decide)), up_ne (Or.inr (by decide))]; exact h23
theorem exF {T : Nat → Int32} {N n k k' q : Nat} {J : JM} {R R' : IM} {s : Nat} (hn : 1000 ≤ n) (hk : k' ≤ 900) (hs : s + k ≤ k' + 2) (h : ∀ f, l_Mod_expression_12 n J (f + s) 1 (up (up R MO 29 0) MO 28 0) = some R') (rf : RFq q (up (up R MO 29 0) MO 28 0) R') : f_Mod_expression n J R = some R' ∧ RFq q R R' := by
  refine ⟨?_, RFq_t (RFq_t (RFq_u (by decide)) (RFq_u (by decide))) rf⟩
  have e := h (n - s)
  rw [show n - s + s = n by omega] at e
  rw [f_Mod_expression, lt, lt, e]
theorem exG {T : Nat → Int32} {N n k k' c ns q : Nat} {J : JM} {ds : List CIt} {m : Int32} {R : IM} (hn : 1000 ≤ n) (vt : VT T N) (hk : k' ≤ 900) (rs : RS T N k c ns q R) (eo : EO T N n J k k' 0 0 c q ds m (up (up R MO 29 0) MO 28 0)) (ht : tC T N k' = 187) : ∃ R', f_Mod_expression n J R = some R' ∧ RS T N k' (c + ds.length) ns q R' ∧ RZ 0 c q ds m R R' := by
  have e : tpR (up (up R MO 29 0) MO 28 0) 0 = -1 := by rw [tpR, if_pos rfl]
  obtain ⟨s, R', R2, a1, a2, a3, a4, a5, a6, a7⟩ := eoG hn vt hk (by omega) eo (by rw [ht]; decide) (by rw [ht]; decide) (by rw [ht]; decide) e (by decide)
  have e59 : R' MO 10 - 400 = 59 := (sub4 (s := 59) vt a3 (by decide)).mpr ht
  have op : f_Mod_operator n J R' = some (0, R2) := by
    rw [a5, e59, opT, if_neg (by decide), b238F (by decide) (by decide), b_Mod_operator_425, a6.2.2.2.1, if_neg (by decide), if_pos rfl, b_Mod_operator_442]
  have rz : RZ 0 c q ds m R R2 := RZ_l (RZ_l (RZ_u (by decide)) (RZ_u (by decide))) a7
  refine ⟨R2, ?_, ⟨a6.1, a6.2.1, a6.2.2.2.2.1, ?_, a6.2.2.2.2.2⟩, rz⟩
  · rw [f_Mod_expression, lt, lt]
    have e2 := a2 (n - s)
    rw [show n - s + s = n by omega] at e2
    obtain ⟨g, hg⟩ : ∃ g, n - s = g + 1 + 1 := ⟨n - s - 2, by omega⟩
    have e3 : l_Mod_expression_12 n J (n - s) 2 R' = some R2 := by
      rw [hg, lx3 a4 op, lx0]
    exact e2.trans e3
  · rw [rz.2.2.2.2.2.2.2 18 (by decide)]; exact rs.2.2.2.1
theorem toldF : ∀ rn, rn < 16 → ∀ j, j < 3 → (((nI rn >>> (nI (j + 1) &&& 31)) &&& 1 = 1) ↔ rn / 2 / 2 ^ j % 2 = 1) ∧ ((nI (rn / 2) &&& ((1 : Int32) <<< (nI j &&& 31)) = 0) ↔ ¬ rn / 2 / 2 ^ j % 2 = 1) ∧ (¬ rn / 2 / 2 ^ j % 2 = 1 → nI (rn / 2) ||| ((1 : Int32) <<< (nI j &&& 31)) = nI (rn / 2 + 2 ^ j) ∧ rn / 2 + 2 ^ j < 8 ∧ nI rn ||| ((1 : Int32) <<< (nI (j + 1) &&& 31)) = nI (rn + 2 * 2 ^ j) ∧ (rn + 2 * 2 ^ j) / 2 = rn / 2 + 2 ^ j) := by decide +kernel
theorem in50 : ∀ t ∈ VL, t ≠ 102 → ((50 ≤ nI (m2r t) ∧ nI (m2r t) ≤ 53) ↔ (41 ≤ t ∧ t ≤ 44)) := by decide +kernel
theorem in50_i {T : Nat → Int32} {N k : Nat} {R : IM} (vt : VT T N) (rb : RB T N k R) : (50 ≤ R MO 10 ∧ R MO 10 ≤ 53) ↔ (41 ≤ tC T N k ∧ tC T N k ≤ 44) := rTest (P := fun x => 50 ≤ x ∧ x ≤ 53) (Q := fun t => 41 ≤ t ∧ t ≤ 44) vt rb in50 (by decide)
/-- what a statement does -/
def CM (pt L : Nat) (ds : List CIt) (m : Int32) (t : Nat) (pl : Int32) (tn : Nat) (C C' : IM) : Prop := C' pt 0 = nI (L + ds.length + 1) ∧ (∀ j, j < L → C' (pt + 1) j = C (pt + 1) j ∧ C' (pt + 2) j = C (pt + 2) j) ∧ BL (CPi C' pt) L ds ∧ C' (pt + 1) (L + ds.length) = nI t ∧ C' (pt + 2) (L + ds.length) = pl ∧ C' 7 3 = C 7 3 ||| m ∧ C' 7 4 = nI tn ∧ CFs pt C C'
def RMs (c ns q : Nat) (ds : List CIt) (m : Int32) (t : Nat) (pl : Int32) (R R' : IM) : Prop := BL (RPi2 R') c ds ∧ (∀ j, j < c → R' A_code0 j = R A_code0 j ∧ R' A_codeValue j = R A_codeValue j) ∧ R' A_named q = R A_named q ||| m ∧ R' A_statementKind ns = nI (m2r t) ∧ R' A_statementAt ns = pl ∧ R' A_statementFrom ns = nI c ∧ R' A_statementTo ns = nI (c + ds.length) ∧ RFs ns q R R'
/-- behind a statement's word: the class from b_64 on, the reference from b_39 on -/
def OkM (T : Nat → Int32) (N K n pt k L t tn : Nat) (D : IM) (F : Option (Int32 × IM)) : Prop := ∃ (C' : IM) (k' : Nat) (ds : List CIt) (m : Int32), F = some (1, C') ∧ k + ds.length + 2 ≤ k' ∧ RA T N K k' C' ∧ CM pt L ds m t (nI (tP T N k)) tn D C' ∧ HT m 33 0 1 ds ∧ mB m ∧ ∀ (J : JM), JOK J → ∀ (R : IM) (c ns q : Nat), RS T N k c ns q R → c ≤ k → ns < 300 → q < 602 → ∃ R', b_Mod_statement_39 n J (R MO 10) R = some R' ∧ RS T N k' (c + ds.length) (ns + 1) q R' ∧ RMs c ns q ds m t (nI (tP T N k)) R R'
def FaM (T : Nat → Int32) (N K n pt k : Nat) (D : IM) (F : Option (Int32 × IM)) : Prop := ∃ (C' : IM) (k' : Nat), F = some (0, C') ∧ k ≤ k' ∧ RA T N K k' C' ∧ CFs pt D C' ∧ ∀ (J : JM), JOK J → ∀ (R : IM) (c ns q : Nat), RS T N k c ns q R → c ≤ k → ns < 300 → q < 602 → ∃ R', b_Mod_statement_39 n J (R MO 10) R = some R' ∧ R' MO 14 = nI (tP T N k') ∧ RFs ns q R R'
