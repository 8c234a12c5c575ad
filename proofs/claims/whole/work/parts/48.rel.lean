/-! how the class's cells and the reference's hang together between two calls -/
abbrev MS : Type := (Nat → Int32) × (Nat → Nat → Int32)
def scF : List Nat := [34, 42, 43, 44, 45, 48, 50, 51, 52, 53, 54, 55, 58, 59, 63, 66]
def arF : List Nat := [119, 120, 121, 122, 123, 124, 125, 126, 127, 128, 129, 130, 131, 132, 134, 135]
def offF : List Nat := [20, 84, 148, 244, 340, 436, 444, 452, 468, 484, 524, 584, 644, 772, 812, 908]
/-- the reference's machine at hand: its scalars and rows, in the order in which it keeps them; the other one -/
def curM (I : IM) : MS := (fun j => I MO (scF.getD j 34), fun j k => I (arF.getD j 119) k)
def othM (I : IM) : MS := (fun j => I A_other j, fun j k => I A_other (offF.getD j 0 + k))
/-- whether the reference has a rule of a kind (word 0), and whether it tells a word -/
def tlI (I : IM) (kd : Int32) (what : Nat) : Prop := 0 ≤ I A_ruleOf kd.toNatClampNeg ∧ (what = 0 ∨ ∃ s : Nat, (I A_ruleFrom (I A_ruleOf kd.toNatClampNeg).toNatClampNeg).toInt ≤ (s : Int) ∧ (s : Int) < (I A_ruleTo (I A_ruleOf kd.toNatClampNeg).toNatClampNeg).toInt ∧ I A_statementKind s = nI what)
def R1 (I : IM) (m : Nat) (s : MS) : Prop := (∀ k, k < 64 → I (m + 1) k = s.2 0 k ∧ I (m + 2) k = s.2 1 k) ∧ (∀ k, k < 96 → I (m + 3) k = s.2 2 k ∧ I (m + 4) k = s.2 3 k ∧ I (m + 5) k = s.2 4 k) ∧ (∀ k, k < 8 → I (m + 6) k = s.2 5 k ∧ I (m + 7) k = s.2 6 k) ∧ I (m + 6) 8 = s.1 1 ∧ I (m + 7) 8 = s.1 2
def R2 (I : IM) (m : Nat) (s : MS) : Prop := I m 0 = s.1 0 ∧ I m 1 = s.1 3 ∧ I (m + 13) 0 = s.1 6 ∧ I (m + 13) 1 = s.1 5 ∧ I (m + 13) 2 = s.1 7 ∧ I (m + 13) 3 = s.1 9 ∧ I (m + 13) 4 = s.1 10 ∧ I (m + 13) 5 = s.1 4 ∧ I (m + 13) 6 = s.1 8 ∧ I (m + 13) 7 = s.1 11
def R3 (I : IM) (m : Nat) (s : MS) : Prop := 0 ≤ (s.1 4).toInt ∧ (s.1 4).toInt ≤ 16 ∧ ∀ k : Nat, (k : Int) < (s.1 4).toInt → I (m + 8) k = s.2 7 k ∧ I (m + 9) k = s.2 8 k
def R4 (t : Nat) (I : IM) (m : Nat) (s : MS) : Prop := 0 ≤ (s.1 5).toInt ∧ (s.1 5).toInt ≤ 2000 * t ∧ ∀ k : Nat, k < 40 → (k : Int) < (s.1 5).toInt → I (m + 10) k = s.2 9 k
def R5 (I : IM) (m : Nat) (s : MS) : Prop := 0 ≤ (s.1 11).toInt ∧ (s.1 11).toInt ≤ 60 ∧ ∀ k : Nat, (k : Int) < (s.1 11).toInt → I (m + 11) k = s.2 10 k ∧ I (m + 12) k = s.2 11 k
def R6 (I : IM) (m : Nat) (s : MS) : Prop := ∀ k, k < 88 → I (m + 14) k = s.2 15 k
def R7 (I : IM) (m : Nat) (s : MS) : Prop := I m 2 = if s.1 6 = 3 then s.1 15 else -1
/-- the cache: rows at the same places, no two with one question; what the rule doesn't tell is 0 in the class -/
def R8 (tl : Int32 → Nat → Prop) (I : IM) (m : Nat) (s : MS) : Prop := I (m + 15) 0 = s.1 12 ∧ 0 ≤ (s.1 12).toInt ∧ (s.1 12).toInt ≤ 8 ∧ 0 ≤ (s.1 13).toInt ∧ (s.1 13).toInt < 8 ∧ I (m + 15) 1 = (if s.1 12 = 8 then s.1 13 else 0) ∧ (¬ s.1 12 = 8 → s.1 13 = s.1 12) ∧ ∀ q : Nat, (q : Int) < (s.1 12).toInt → I (m + 16) (25 * q) = s.2 12 (16 * q) ∧ (∀ j, j < 15 → I (m + 16) (25 * q + 10 + j) = s.2 12 (16 * q + 1 + j)) ∧ (0 ≤ (s.2 12 (16 * q)).toInt ∧ (s.2 12 (16 * q)).toInt < 22 ∧ tl (s.2 12 (16 * q)) 0 ∧ ∀ p : Nat, p < q → ¬ ∀ j, j < 16 → s.2 12 (16 * p + j) = s.2 12 (16 * q + j)) ∧ I (m + 16) (25 * q + 1) = s.2 13 (5 * q) ∧ (s.2 13 (5 * q) = 0 ∨ s.2 13 (5 * q) = 3) ∧ (∀ j, j < 3 → (s.2 13 (5 * q) = 0 → tl (s.2 12 (16 * q)) (51 + j) → I (m + 16) (25 * q + 2 + j) = s.2 13 (5 * q + 1 + j)) ∧ ((s.2 13 (5 * q) = 3 ∨ ¬ tl (s.2 12 (16 * q)) (51 + j)) → I (m + 16) (25 * q + 2 + j) = 0)) ∧ (s.2 13 (5 * q) = 0 → I (m + 16) (25 * q + 5) = -1) ∧ (s.2 13 (5 * q) = 3 → I (m + 16) (25 * q + 5) = s.2 13 (5 * q + 4))
def R9 (t : Nat) (I : IM) (m : Nat) (s : MS) : Prop := 0 ≤ (s.1 14).toInt ∧ (s.1 14).toInt ≤ 2000 * t ∧ I (m + 17) 0 = (if s.1 14 < 16 then s.1 14 else 16) ∧ (I (m + 17) 1).toInt = (if s.1 14 < 16 then 0 else (s.1 14).toInt % 16) ∧ ∀ k : Nat, k < 96 → (k : Int) < 6 * (s.1 14).toInt → I (m + 18) k = s.2 14 k
def RM (t : Nat) (tl : Int32 → Nat → Prop) (I : IM) (m : Nat) (s : MS) : Prop := R1 I m s ∧ R2 I m s ∧ R3 I m s ∧ R4 t I m s ∧ R5 I m s ∧ R6 I m s ∧ R7 I m s ∧ R8 tl I m s ∧ R9 t I m s
def TX (I : IM) : Prop := I 1 0 = I MO 2 ∧ 0 ≤ (I 1 0).toInt ∧ (I 1 0).toInt ≤ 900 ∧ ∀ k : Nat, (k : Int) < (I 1 0).toInt → I 2 k = I A_signs k ∧ ((32 ≤ (I 2 k).toInt ∧ (I 2 k).toInt ≤ 126) ∨ I 2 k = 10)
def RC (I : IM) : Prop := ∀ m, isMch m → I (m + 15) 2 = 8 ∧ I (m + 15) 3 = 25 ∧ I (m + 17) 2 = 16 ∧ I (m + 17) 3 = 6
def WI (I : IM) : Prop := I 40 0 = I MO 71 ∧ (I 40 0 = 0 ∨ I 40 0 = 1) ∧ (I 40 0 = 1 → ∀ k, k < 15 → I 41 k = I A_witness k)
def DIS (rl hd ot pt it : Nat) : Prop := hd ≠ ot ∧ hd ≠ it ∧ ot ≠ it ∧ rl ≠ pt ∧ rl ≠ 48 ∧ pt ≠ 48
/-- what the policies hang on: the reference's tables, the class's policies -/
def agP (I I' : IM) : Prop := (∀ a ∈ [107, 108, 109, 110, 111, 112, 113, 114, 115, 118], I' a = I a) ∧ I' A_code0 = I A_code0 ∧ I' MO 15 = I MO 15 ∧ I' MO 18 = I MO 18 ∧ I' MO 23 = I MO 23 ∧ I' MO 32 = I MO 32 ∧ ∀ a, isPol a → ∀ j, j < 7 → I' (a + j) = I (a + j)
def PXF (PX : Nat → IM → Prop) : Prop := ∀ rl I I', agP I I' → PX rl I → PX rl I'
def Rl (PX : Nat → IM → Prop) : RelT := fun t rl hd ot pt it I => DIS rl hd ot pt it ∧ TX I ∧ RC I ∧ WI I ∧ I MO 69 = 0 ∧ RM t (tlI I) I hd (curM I) ∧ RM t (tlI I) I ot (othM I) ∧ PX rl I
theorem scF_ne : ∀ j, scF.getD j 34 ≠ 0 := by
  intro j
  by_cases h : j < 16
  · revert j
    decide
  · rw [List.getD_eq_getElem?_getD, List.getElem?_eq_none (show scF.length ≤ j from by show 16 ≤ j; omega)]
    decide
theorem arF_ge : ∀ j, 119 ≤ arF.getD j 119 ∧ arF.getD j 119 < 136 := by
  intro j
  by_cases h : j < 16
  · revert j
    decide
  · rw [List.getD_eq_getElem?_getD, List.getElem?_eq_none (show arF.length ≤ j from by show 16 ≤ j; omega)]
    decide
theorem RM_c {t : Nat} {tl : Int32 → Nat → Prop} {I I' : IM} {m : Nat} {s : MS} (hc : ∀ i, i < 19 → I' (m + i) = I (m + i)) (h : RM t tl I m s) : RM t tl I' m s := by
  have e0 : I' m = I m := hc 0 (by decide)
  unfold RM R1 R2 R3 R4 R5 R6 R7 R8 R9 at h ⊢
  rw [e0, hc 1 (by decide), hc 2 (by decide), hc 3 (by decide), hc 4 (by decide), hc 5 (by decide), hc 6 (by decide), hc 7 (by decide), hc 8 (by decide), hc 9 (by decide), hc 10 (by decide), hc 11 (by decide), hc 12 (by decide), hc 13 (by decide), hc 14 (by decide), hc 15 (by decide), hc 16 (by decide), hc 17 (by decide), hc 18 (by decide)]
  exact h
theorem RM_t {t : Nat} {tl : Int32 → Nat → Prop} {I : IM} {m : Nat} {s : MS} (h : RM t tl I m s) : RM (t + 1) tl I m s := by
  obtain ⟨h1, h2, h3, ⟨a1, a2, a3⟩, h5, h6, h7, h8, b1, b2, b3⟩ := h
  exact ⟨h1, h2, h3, ⟨a1, by omega, a3⟩, h5, h6, h7, h8, b1, by omega, b3⟩
theorem tlI_c {I I' : IM} (h1 : I' A_ruleFrom = I A_ruleFrom) (h2 : I' A_ruleTo = I A_ruleTo) (h3 : I' A_ruleOf = I A_ruleOf) (h4 : I' A_statementKind = I A_statementKind) : tlI I' = tlI I := by
  funext kd what
  unfold tlI
  rw [h1, h2, h3, h4]
theorem tlI_ag {I I' : IM} (h : agP I I') : tlI I' = tlI I := tlI_c (h.1 112 (by decide)) (h.1 113 (by decide)) (h.1 114 (by decide)) (h.1 108 (by decide))
/-- a call that leaves policies, other machine and text as they were -/
theorem Rl_of {PX : Nat → IM → Prop} (hP : PXF PX) {t rl hd ot pt it : Nat} {I I' : IM} (h : Rl PX t rl hd ot pt it I) (hT : TX I') (hC : RC I') (hW : WI I') (h69 : I' MO 69 = 0) (hg : agP I I') (ho : ∀ i, i < 19 → I' (ot + i) = I (ot + i)) (hA : I' A_other = I A_other) (hm : RM (t + 1) (tlI I) I' hd (curM I')) : Rl PX (t + 1) rl hd ot pt it I' := by
  obtain ⟨d, -, -, -, -, -, r2, px⟩ := h
  have e : othM I' = othM I := by
    unfold othM
    rw [hA]
  refine ⟨d, hT, hC, hW, h69, ?_, ?_, hP _ _ _ hg px⟩
  · rw [tlI_ag hg]
    exact hm
  · rw [tlI_ag hg, e]
    exact RM_t (RM_c ho r2)
/-- a call that only notes whether it was refused -/
theorem Rl_thr {PX : Nat → IM → Prop} (hP : PXF PX) {t rl hd ot pt it : Nat} {I : IM} {c : Int32} (hd1 : isMch hd) (ho1 : isMch ot) (h : Rl PX t rl hd ot pt it I) : Rl PX (t + 1) rl hd ot pt it (up I MO 0 c) := by
  have hb : ∀ b, b ≠ MO → up I MO 0 c b = I b := fun b hb => fr_up rfl hb
  have hj : ∀ j, j ≠ 0 → up I MO 0 c MO j = I MO j := fun j hj => up_ne (Or.inr hj)
  obtain ⟨d, tx, rc, wi, h69, r1, r2, px⟩ := id h
  have hm : ∀ m, isMch m → ∀ i, i < 19 → up I MO 0 c (m + i) = I (m + i) := fun m hm i hi => hb _ (by rcases hm with rfl | rfl | rfl <;> (show _ ≠ 102; omega))
  have e : curM (up I MO 0 c) = curM I := by
    unfold curM
    congr 1
    · funext j
      exact hj _ (scF_ne j)
    · funext j k
      rw [hb _ (fun q => by have := arF_ge j; rw [q] at this; exact absurd this (by decide))]
  refine Rl_of hP h ?_ ?_ ?_ ?_ ⟨fun a ha => hb a ?_, hb _ (by decide), hj _ (by decide), hj _ (by decide), hj _ (by decide), hj _ (by decide), fun a ha j hj => hb _ ?_⟩ (hm ot ho1) (hb _ (by decide)) ?_
  · unfold TX
    rw [hb 1 (by decide), hb 2 (by decide), hb A_signs (by decide), hj 2 (by decide)]
    exact tx
  · intro m hm1
    rw [hm m hm1 15 (by decide), hm m hm1 17 (by decide)]
    exact rc m hm1
  · unfold WI
    rw [hb 40 (by decide), hb 41 (by decide), hb A_witness (by decide), hj 71 (by decide)]
    exact wi
  · rw [hj 69 (by decide)]
    exact h69
  · revert a
    decide
  · rcases ha with rfl | rfl | rfl <;> (show _ ≠ 102; omega)
  · rw [e]
    exact RM_t (RM_c (hm hd hd1) r1)
theorem i95 {x : Int32} : (95 : Int32) < x ↔ ¬ x < 96 := by
  rw [Int32.lt_iff_toInt_lt, Int32.lt_iff_toInt_lt]
  simp only [Int32.reduceToInt]
  omega
theorem inb_of {x : Int32} {n : Nat} (h0 : ¬ x < 0) (h1 : x.toInt < n) : inb x n := by
  have : vp_in x n := by
    rw [vp_in_iff]
    rw [Int32.lt_iff_toInt_lt] at h0
    simp only [Int32.reduceToInt] at h0
    omega
  exact this
theorem nat_of {x : Int32} (h0 : ¬ x < 0) : ((x.toNatClampNeg : Nat) : Int) = x.toInt := by
  rw [Int32.lt_iff_toInt_lt] at h0
  simp only [Int32.reduceToInt] at h0
  unfold Int32.toNatClampNeg
  omega
