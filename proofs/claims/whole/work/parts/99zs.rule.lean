/-! policy: a rule -/
theorem and1o (y : Int32) : y &&& 1 = 0 ∨ y &&& 1 = 1 := by
  obtain ⟨m, h1, h2⟩ : ∃ m : Nat, m < 2 ∧ y &&& 1 = nI m := by
    refine ⟨(y &&& 1).toBitVec.toNat, ?_, ?_⟩
    · rw [Int32.toBitVec_and, BitVec.toNat_and]
      exact Nat.lt_of_le_of_lt Nat.and_le_right (by decide)
    · apply Int32.toBitVec.inj
      show (y &&& 1).toBitVec = BitVec.ofNat 32 _
      rw [BitVec.ofNat_toNat, BitVec.setWidth_eq]
  rcases (show m = 0 ∨ m = 1 by omega) with rfl | rfl
  · exact Or.inl h2
  · exact Or.inr h2
theorem mskB {u v : Int32} : (u &&& (v ^^^ (-1))) &&& 1 = (u &&& 1) &&& ((v &&& 1) ^^^ 1) := by
  apply Int32.toBitVec_inj.1
  rw [Int32.toBitVec_and, Int32.toBitVec_and, Int32.toBitVec_xor, Int32.toBitVec_and, Int32.toBitVec_and, Int32.toBitVec_xor, Int32.toBitVec_and, show (-1 : Int32).toBitVec = BitVec.allOnes 32 by decide]
  ext i hi
  rw [BitVec.getElem_and, BitVec.getElem_and, BitVec.getElem_xor, BitVec.getElem_and, BitVec.getElem_and, BitVec.getElem_xor, BitVec.getElem_and, BitVec.getElem_allOnes]
  generalize u.toBitVec[i] = a
  generalize v.toBitVec[i] = b
  generalize (1 : Int32).toBitVec[i] = c
  cases a <;> cases b <;> cases c <;> rfl
theorem m1s : ∀ j, j < 22 → (-1 : Int32) >>> (nI j &&& 31) = -1 := by decide
theorem tb_m {a b : Int32} {j : Nat} (hj : j < 22) : tbi (a &&& (b ^^^ (-1))) j ↔ tbi a j ∧ ¬ tbi b j := by
  unfold tbi
  rw [Int32.shiftRight_and, Int32.shiftRight_xor, m1s j hj, mskB]
  rcases and1o (a >>> (nI j &&& 31)) with h | h <;> rcases and1o (b >>> (nI j &&& 31)) with g | g <;> rw [h, g] <;> decide
theorem adRl {n pt : Nat} {x1 x2 x3 x4 : Int32} : ∀ (d f j : Nat) (I : IM), j + d = 22 → d < f → ∃ I', l_Pol_addRule_3 n pt f x1 x2 x3 x4 (nI j) I = some I' ∧ (∀ i, i < 22 → j ≤ i → tbi x1 i → I' (pt + 3) i = x2 ∧ I' (pt + 4) i = I pt 0 ∧ I' (pt + 5) i = x3 ∧ I' (pt + 6) i = x4) ∧ (∀ i, i < j ∨ ¬ tbi x1 i → ∀ a, I' (pt + a) i = I (pt + a) i) ∧ ∀ b, b ≠ pt + 3 → b ≠ pt + 4 → b ≠ pt + 5 → b ≠ pt + 6 → I' b = I b
  | 0, f, j, I, h, hf => by
    obtain ⟨g, rfl⟩ : ∃ g, f = g + 1 := ⟨f - 1, by omega⟩
    obtain rfl : j = 22 := by omega
    refine ⟨I, ?_, fun i h1 h2 _ => absurd h2 (by omega), fun _ _ _ => rfl, fun _ _ _ _ _ => rfl⟩
    rw [l_Pol_addRule_3, if_pos (by decide)]
  | d + 1, f, j, I, h, hf => by
    obtain ⟨g, rfl⟩ : ∃ g, f = g + 1 := ⟨f - 1, by omega⟩
    have n22 : ¬ (22 : Int32) ≤ nI j := fun y => by have := (nle (a := 22) (by decide) (by omega)).mp y; omega
    by_cases z : tbi x1 j
    rotate_left
    · have z' : (((x1 : Int32) >>> (nI j &&& 31)) &&& 1 : Int32) = 0 := Classical.byContradiction fun w => z w
      obtain ⟨I', a1, a2, a3, a4⟩ := adRl (n := n) (pt := pt) (x1 := x1) (x2 := x2) (x3 := x3) (x4 := x4) d g (j + 1) I (by omega) (by omega)
      refine ⟨I', ?_, fun i h1 h2 h3 => ?_, fun i h1 a => a3 i ?_ a, a4⟩
      · rw [l_Pol_addRule_3, if_neg n22, if_pos z', b_Pol_addRule_55, nk1, a1]
      · by_cases e : i = j
        · subst e; exact absurd h3 z
        · exact a2 i h1 (by omega) h3
      · rcases h1 with h1 | h1
        · exact Or.inl (by omega)
        · exact Or.inr h1
    · obtain ⟨D, hD⟩ : ∃ D, D = up (up (up (up I (pt + 3) j x2) (pt + 4) j (I pt 0)) (pt + 5) j x3) (pt + 6) j x4 := ⟨_, rfl⟩
      obtain ⟨I', a1, a2, a3, a4⟩ := adRl (n := n) (pt := pt) (x1 := x1) (x2 := x2) (x3 := x3) (x4 := x4) d g (j + 1) D (by omega) (by omega)
      have d0 : D pt 0 = I pt 0 := by rw [hD, fu (by omega), fu (by omega), fu (by omega), fu (by omega)]
      refine ⟨I', ?_, fun i h1 h2 h3 => ?_, fun i h1 a => ?_, fun b z1 z2 z3 z4 => ?_⟩
      · have e0 : (up I (pt + 3) j x2) pt 0 = I pt 0 := by rw [fu (by omega)]
        rw [l_Pol_addRule_3, if_neg n22, if_neg z, chk_i (show inb (nI j) 22 from nki (by omega) (by decide)), nkc (by omega), lt, e0, lt, lt, lt, ← hD, b_Pol_addRule_55, nk1, a1]
      · by_cases e : i = j
        · subst e
          rw [a3 i (Or.inl (by omega)) 3, a3 i (Or.inl (by omega)) 4, a3 i (Or.inl (by omega)) 5, a3 i (Or.inl (by omega)) 6, hD]
          refine ⟨?_, ?_, ?_, ?_⟩
          · rw [fu (by omega), fu (by omega), fu (by omega), up_self]
          · rw [fu (by omega), fu (by omega), up_self]
          · rw [fu (by omega), up_self]
          · rw [up_self]
        · have := a2 i h1 (by omega) h3
          rw [d0] at this
          exact this
      · have hij : i ≠ j := fun e => by
          subst e
          rcases h1 with h1 | h1
          · omega
          · exact h1 z
        rw [a3 i (h1.elim (fun w => Or.inl (by omega)) Or.inr) a, hD, up_ne (Or.inr hij), up_ne (Or.inr hij), up_ne (Or.inr hij), up_ne (Or.inr hij)]
      · rw [a4 b z1 z2 z3 z4, hD, fu z4, fu z3, fu z2, fu z1]
/-- the abstract policy: a head, a rule's end -/
def aSR (A : AP) (ro : Nat → Int32) : AP := (aNr A, aSf A, aCf A, aCd A, aCv A, aSk A, aSa A, aNm A, ro)
def aRF (A : AP) (ns : Nat) (m : Int32) : AP := (aNr A + 1, fun q => if q ≤ aNr A then aSf A q else ns, aCf A, aCd A, aCv A, aSk A, aSa A, fun q => if q = aNr A then m else aNm A q, aRo A)
def BA (A : AP) (k : Nat) : Prop := AW A (aNs A) ∧ aSf A 0 = 0 ∧ (∀ q, q < aNr A → aSf A q ≤ aSf A (q + 1)) ∧ (∀ j, j < 22 → aRo A j = -1 ∨ ∃ q, q < aNr A ∧ aRo A j = nI q) ∧ (∀ q, q < aNr A → mB (aNm A q)) ∧ (∀ q, q < aNr A → ∀ s, aSf A q ≤ s → s < aSf A (q + 1) → AD A (aNm A q) s) ∧ aNr A ≤ cnt (aRo A) 22 ∧ aCf A (aNs A) + aNs A ≤ k ∧ 3 * aNs A + 2 * aNr A ≤ k
def PCr (A : AP) (p : Nat) (I : IM) : Prop := ∀ k, k < 22 → (aRo A k = -1 → I (p + 5) k = -1) ∧ ∀ q, q < aNr A → aRo A k = nI q → I (p + 5) k = aNm A q ∧ I (p + 3) k = nI (aCf A (aSf A q) + aSf A q) ∧ I (p + 4) k = nI (aCf A (aSf A (q + 1)) + aSf A (q + 1)) ∧ ∃ T, T < 8 ∧ I (p + 6) k = nI T ∧ ∀ j, j < 3 → (T / 2 ^ j % 2 = 1 ↔ aTe A q (51 + j))
def BC (T : Nat → Int32) (N K pt : Nat) (A : AP) (k : Nat) (C : IM) : Prop := RA T N K k C ∧ C pt 0 = nI (aCf A (aNs A) + aNs A) ∧ ACs A (aNs A) pt C ∧ PCr A pt C ∧ HC (aRo A) C
def BR (T : Nat → Int32) (N : Nat) (A : AP) (k : Nat) (R : IM) : Prop := RS T N k (aCf A (aNs A)) (aNs A) (aNr A) R ∧ ARs A (aNs A) R ∧ HO (aRo A) R ∧ ∀ q, q < aNr A → R A_ruleFrom q = nI (aSf A q) ∧ R A_ruleTo q = nI (aSf A (q + 1)) ∧ R A_named q = aNm A q
/-- frames of all rules -/
def CFr (pt : Nat) (C C' : IM) : Prop := (∀ b, b ≠ 1 → b ≠ 7 → ¬ (pt ≤ b ∧ b ≤ pt + 6) → C' b = C b) ∧ ∀ j, j ≠ 2 → j ≠ 3 → j ≠ 4 → C' 7 j = C 7 j
theorem CFr_t {pt : Nat} {A B C : IM} (h : CFr pt A B) (g : CFr pt B C) : CFr pt A C := ⟨fun b z1 z2 z3 => (g.1 b z1 z2 z3).trans (h.1 b z1 z2 z3), fun j z1 z2 z3 => (g.2 j z1 z2 z3).trans (h.2 j z1 z2 z3)⟩
theorem CFr_s {pt : Nat} {A B : IM} (h : CFs pt A B) : CFr pt A B := ⟨fun b z1 z2 z3 => h.1 b z1 z2 (by omega) (by omega) (by omega), fun j _ z2 z3 => h.2 j z2 z3⟩
theorem CFr_k {pt : Nat} {A B : IM} (h : CFk A B) : CFr pt A B := ⟨fun b z1 z2 _ => h.1 b z1 z2, fun j z _ _ => h.2 j z⟩
theorem CFr_0 {pt : Nat} {A : IM} : CFr pt A A := ⟨fun _ _ _ _ => rfl, fun _ _ _ _ => rfl⟩
def RFw (R R' : IM) : Prop := (∀ b, b ≠ 102 → ¬ (106 ≤ b ∧ b ≤ 117) → R' b = R b) ∧ (∀ j, 1000 ≤ j → R' A_code0 j = R A_code0 j ∧ R' A_codeValue j = R A_codeValue j) ∧ (∀ j, 300 ≤ j → R' A_statementKind j = R A_statementKind j ∧ R' A_statementFrom j = R A_statementFrom j ∧ R' A_statementTo j = R A_statementTo j) ∧ (∀ j, 22 ≤ j → R' A_ruleOf j = R A_ruleOf j) ∧ (∀ j, 301 ≤ j → R' A_ruleFrom j = R A_ruleFrom j ∧ R' A_ruleTo j = R A_ruleTo j ∧ R' A_named j = R A_named j) ∧ ∀ j, j ∉ [10, 11, 12, 13, 14, 15, 18, 23, 28, 29] → R' MO j = R MO j
theorem RFw_t {A B C : IM} (h : RFw A B) (g : RFw B C) : RFw A C := ⟨fun b z1 z2 => (g.1 b z1 z2).trans (h.1 b z1 z2), fun j z => ⟨(g.2.1 j z).1.trans (h.2.1 j z).1, (g.2.1 j z).2.trans (h.2.1 j z).2⟩, fun j z => ⟨(g.2.2.1 j z).1.trans (h.2.2.1 j z).1, (g.2.2.1 j z).2.1.trans (h.2.2.1 j z).2.1, (g.2.2.1 j z).2.2.trans (h.2.2.1 j z).2.2⟩, fun j z => (g.2.2.2.1 j z).trans (h.2.2.2.1 j z), fun j z => ⟨(g.2.2.2.2.1 j z).1.trans (h.2.2.2.2.1 j z).1, (g.2.2.2.2.1 j z).2.1.trans (h.2.2.2.2.1 j z).2.1, (g.2.2.2.2.1 j z).2.2.trans (h.2.2.2.2.1 j z).2.2⟩, fun j z => (g.2.2.2.2.2 j z).trans (h.2.2.2.2.2 j z)⟩
theorem RFw_0 {A : IM} : RFw A A := ⟨fun _ _ _ => rfl, fun _ _ => ⟨rfl, rfl⟩, fun _ _ => ⟨rfl, rfl, rfl⟩, fun _ _ => rfl, fun _ _ => ⟨rfl, rfl, rfl⟩, fun _ _ => rfl⟩
theorem RFw_y {q : Nat} {A B : IM} (hq : q < 301) (h : RFy q A B) : RFw A B := by
  have e : ∀ b, b ∉ [102, 106, 107, 108, 109, 110, 111, 115, 116, 117] → B b = A b := h.1
  refine ⟨fun b z1 z2 => e b ?_, h.2.1, h.2.2.1, fun j _ => by rw [e A_ruleOf (by decide)], fun j hj => ⟨by rw [e A_ruleFrom (by decide)], by rw [e A_ruleTo (by decide)], h.2.2.2.1 j (by omega)⟩, fun j z => h.2.2.2.2 j ?_⟩
  · simp only [List.mem_cons, List.not_mem_nil, or_false]; omega
  · revert z
    simp only [List.mem_cons, List.not_mem_nil, or_false]
    omega
theorem RFw_k {A B : IM} (h : RFk A B) : RFw A B := by
  have e : ∀ b, b ≠ 102 → b ≠ 114 → B b = A b := h.1
  refine ⟨fun b z1 z2 => e b z1 (by omega), fun j _ => ?_, fun j _ => ?_, h.2.1, fun j hj => ?_, fun j z => h.2.2 j ?_⟩
  · rw [e _ (by decide) (by decide), e A_codeValue (by decide) (by decide)]; exact ⟨rfl, rfl⟩
  · rw [e _ (by decide) (by decide), e A_statementFrom (by decide) (by decide), e A_statementTo (by decide) (by decide)]; exact ⟨rfl, rfl, rfl⟩
  · rw [e _ (by decide) (by decide), e A_ruleTo (by decide) (by decide), e A_named (by decide) (by decide)]; exact ⟨rfl, rfl, rfl⟩
  · revert z
    simp only [List.mem_cons, List.not_mem_nil, or_false]
    omega
theorem RFw_r {a q : Nat} {A : IM} {v : Int32} (ha : a = 112 ∨ a = 113 ∨ a = 115) (hq : q < 301) : RFw A (up A a q v) := by
  have s : a ≠ 102 ∧ a ≠ 106 ∧ a ≠ 107 ∧ a ≠ 108 ∧ a ≠ 110 ∧ a ≠ 111 ∧ a ≠ 114 := by omega
  have e : ∀ b, b ≠ a → (up A a q v) b = A b := fun b z => fu z
  refine ⟨fun b z1 z2 => e b (by omega), fun j _ => ?_, fun j _ => ?_, fun j _ => ?_, fun j hj => ⟨up_ne (Or.inr (by omega)), up_ne (Or.inr (by omega)), up_ne (Or.inr (by omega))⟩, fun j _ => ?_⟩
  · rw [e _ (fun y => s.2.1 y.symm), e A_codeValue (fun y => s.2.2.1 y.symm)]; exact ⟨rfl, rfl⟩
  · rw [e _ (fun y => s.2.2.2.1 y.symm), e A_statementFrom (fun y => s.2.2.2.2.1 y.symm), e A_statementTo (fun y => s.2.2.2.2.2.1 y.symm)]; exact ⟨rfl, rfl, rfl⟩
  · rw [e _ (fun y => s.2.2.2.2.2.2 y.symm)]
  · rw [e _ (fun y => s.1 y.symm)]
theorem RFw_u {j : Nat} {A : IM} {v : Int32} (h : j ∈ [10, 11, 12, 13, 14, 15, 18, 23, 28, 29]) : RFw A (up A MO j v) := by
  have e : ∀ b, b ≠ 102 → (up A MO j v) b = A b := fun b z => fu z
  refine ⟨fun b z _ => e b z, fun j _ => ?_, fun j _ => ?_, fun j _ => ?_, fun j _ => ?_, fun i z => up_ne (Or.inr (fun y => z (by rw [y]; exact h)))⟩
  · rw [e _ (by decide), e A_codeValue (by decide)]; exact ⟨rfl, rfl⟩
  · rw [e _ (by decide), e A_statementFrom (by decide), e A_statementTo (by decide)]; exact ⟨rfl, rfl, rfl⟩
  · rw [e _ (by decide)]
  · rw [e _ (by decide), e A_ruleTo (by decide), e A_named (by decide)]; exact ⟨rfl, rfl, rfl⟩
theorem Sf_m {A : AP} (h : ∀ q, q < aNr A → aSf A q ≤ aSf A (q + 1)) : ∀ {a b : Nat}, a ≤ b → b ≤ aNr A → aSf A a ≤ aSf A b := by
  intro a b hab
  induction b with
  | zero => intro _; have : a = 0 := by omega
            subst this; exact Nat.le_refl _
  | succ b ih =>
    intro hb
    by_cases e : a = b + 1
    · rw [e]; exact Nat.le_refl _
    · exact Nat.le_trans (ih (by omega) (by omega)) (h b (by omega))
/-- a rule that is read is a rule more -/
theorem BA_n {A B : AP} {ro : Nat → Int32} {ns k k' tn : Nat} {m : Int32} (ba : BA A k) (hns : aNs A ≤ ns) (ae : AE (aSR A ro) B (aNs A)) (ia : IA B ns k' m tn) (hr : RO (aNr A) ro) (hc : cnt (aRo A) 22 < cnt ro 22) (hk : 3 * ns + 2 * (aNr A + 1) ≤ k') : BA (aRF B ns m) k' := by
  obtain ⟨b1, b2, b3, b4, b5, b6, b7, b8, b9⟩ := ba
  obtain ⟨i1, i2, i3, i4, i5, i6, i7, i8⟩ := ia
  have n1 : aNr B = aNr A := ae.1
  have n2 : aSf B = aSf A := ae.2.1
  have n3 : aNm B = aNm A := ae.2.2.1
  have n4 : aRo B = ro := ae.2.2.2.1
  have e1 : aNr (aRF B ns m) = aNr A + 1 := by show aNr B + 1 = _; rw [n1]
  have f1 : ∀ q, q ≤ aNr A → aSf (aRF B ns m) q = aSf A q := fun q hq => by
    show (if q ≤ aNr B then aSf B q else ns) = _
    rw [if_pos (by omega), n2]
  have f2 : aSf (aRF B ns m) (aNr A + 1) = ns := by
    show (if aNr A + 1 ≤ aNr B then aSf B (aNr A + 1) else ns) = _
    rw [if_neg (by omega)]
  have e2 : aNs (aRF B ns m) = ns := by rw [aNs, e1, f2]
  have g1 : ∀ q, q < aNr A → aNm (aRF B ns m) q = aNm A q := fun q hq => by
    show (if q = aNr B then m else aNm B q) = _
    rw [if_neg (by omega), n3]
  have g2 : aNm (aRF B ns m) (aNr A) = m := by
    show (if aNr A = aNr B then m else aNm B (aNr A)) = _
    rw [if_pos n1.symm]
  have e3 : aRo (aRF B ns m) = ro := n4
  have nsE : aNs A = aSf A (aNr A) := rfl
  refine ⟨by rw [e2]; exact i1, by rw [f1 0 (Nat.zero_le _)]; exact b2, fun q hq => ?_, fun j hj => ?_, fun q hq => ?_, fun q hq s h1 h2 => ?_, ?_, ?_, ?_⟩
  · rw [e1] at hq
    by_cases e : q = aNr A
    · subst e; rw [f1 _ (Nat.le_refl _), f2]; omega
    · rw [f1 _ (by omega), f1 _ (by omega)]; exact b3 q (by omega)
  · rw [e3, e1]
    rcases hr j hj with h | ⟨q, h1, h2⟩
    · exact Or.inl h
    · exact Or.inr ⟨q, by omega, h2⟩
  · rw [e1] at hq
    by_cases e : q = aNr A
    · subst e; rw [g2]; exact i6
    · rw [g1 q (by omega)]; exact b5 q (by omega)
  · rw [e1] at hq
    by_cases e : q = aNr A
    · subst e
      rw [f1 _ (Nat.le_refl _)] at h1
      rw [f2] at h2
      rw [g2]
      exact i3 s (by rw [n1, n2]; exact h1) h2
    · rw [f1 _ (by omega)] at h1
      rw [f1 _ (by omega)] at h2
      rw [g1 q (by omega)]
      have := Sf_m b3 (show q + 1 ≤ aNr A by omega) (Nat.le_refl _)
      exact AD_e (A := aSR A ro) (A' := B) b1 ae (by omega) (fun _ _ h => h) (b6 q (by omega) s h1 h2)
  · rw [e1, e3]; omega
  · rw [e2]; exact i7
  · rw [e2, e1]; exact hk
