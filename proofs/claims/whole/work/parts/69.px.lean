/-! the policies: an abstract one, of which the class's steps and the reference's tables are two pictures -/
/-- number of rules; first statement of a rule; first code of a statement; codes; their values (a jump's: the code it goes to); a statement's word; its place; a rule's names; a kind's rule or -1 -/
abbrev AP : Type := Nat × (Nat → Nat) × (Nat → Nat) × (Nat → Int32) × (Nat → Int32) × (Nat → Int32) × (Nat → Int32) × (Nat → Int32) × (Nat → Int32)
def aNr (A : AP) : Nat := A.1
def aSf (A : AP) : Nat → Nat := A.2.1
def aCf (A : AP) : Nat → Nat := A.2.2.1
def aCd (A : AP) : Nat → Int32 := A.2.2.2.1
def aCv (A : AP) : Nat → Int32 := A.2.2.2.2.1
def aSk (A : AP) : Nat → Int32 := A.2.2.2.2.2.1
def aSa (A : AP) : Nat → Int32 := A.2.2.2.2.2.2.1
def aNm (A : AP) : Nat → Int32 := A.2.2.2.2.2.2.2.1
def aRo (A : AP) : Nat → Int32 := A.2.2.2.2.2.2.2.2
def aNs (A : AP) : Nat := aSf A (aNr A)
def aNc (A : AP) : Nat := aCf A (aNs A)
/-- whether rule q tells the word -/
def aTe (A : AP) (q w : Nat) : Prop := ∃ s, aSf A q ≤ s ∧ s < aSf A (q + 1) ∧ aSk A s = nI w
/-- a bit of a row of bits, as both programs look at it -/
def tbi (x : Int32) (k : Nat) : Prop := ¬ ((x >>> (nI k &&& 31)) &&& 1) = 0
def isJ (c : Int32) : Prop := c = 302 ∨ c = 303
/-- the class's step and what stands beside it, for a code of statement s -/
def trS (c : Int32) : Int32 := if c = 300 then 101 else if 500 ≤ c then 103 else if c = 301 then 104 else if c = 302 then 186 else if c = 303 then 191 else if 310 ≤ c then c - 273 else if c = 202 then 317 else if c = 203 then 289 else if c = 204 then 316 else c + 128
def trX (c v : Int32) (s : Nat) : Int32 := if c = 300 then v else if 500 ≤ c then c - 500 else if c = 302 then v + nI s else if c = 303 then v + nI s else 0
/-- a code that can be worked out: dp is the stack's height before a code, g the end of its statement -/
def Sok (A : AP) (nm : Int32) (dp : Nat → Nat) (g i : Nat) : Prop := dp i ≤ 33 ∧ ((aCd A i = 300 ∧ dp (i + 1) = dp i + 1) ∨ (∃ k, k < 15 ∧ aCd A i = nI (500 + k) ∧ tbi nm k ∧ dp (i + 1) = dp i + 1) ∨ (aCd A i ∈ ([33, 126, 301, 311, 312, 313] : List Int32) ∧ 1 ≤ dp i ∧ dp (i + 1) = dp i) ∨ (aCd A i ∈ ([38, 43, 45, 60, 94, 124, 202, 203, 204] : List Int32) ∧ 2 ≤ dp i ∧ dp (i + 1) + 1 = dp i) ∨ (aCd A i = 310 ∧ tbi nm 15 ∧ 2 ≤ dp i ∧ dp (i + 1) + 1 = dp i) ∨ (∃ k, aCd A i = 303 ∧ aCv A i = nI k ∧ i < k ∧ k ≤ g ∧ dp i = dp (i + 1) + 1 ∧ dp k = dp (i + 1)) ∨ (∃ k, aCd A i = 302 ∧ aCv A i = nI k ∧ i < k ∧ k ≤ g ∧ dp k = dp i))
/-- what an abstract policy keeps -/
def WF (A : AP) : Prop := aNr A ≤ 22 ∧ aSf A 0 = 0 ∧ (∀ q, q < aNr A → aSf A q ≤ aSf A (q + 1)) ∧ aNs A < 300 ∧ aCf A 0 = 0 ∧ (∀ s, s < aNs A → aCf A s < aCf A (s + 1)) ∧ aNc A + aNs A ≤ 900 ∧ (∀ k, k < 22 → aRo A k = -1 ∨ ∃ q, q < aNr A ∧ aRo A k = nI q) ∧ (∀ q, q < aNr A → 0 ≤ (aNm A q).toInt ∧ (aNm A q).toInt < 131072) ∧ (∀ s, s < aNs A → ∃ w, w < 4 ∧ aSk A s = nI (50 + w)) ∧ ∀ q, q < aNr A → ∀ s, aSf A q ≤ s → s < aSf A (q + 1) → ∃ dp : Nat → Nat, dp (aCf A s) = 0 ∧ dp (aCf A (s + 1)) = 1 ∧ ∀ i, aCf A s ≤ i → i < aCf A (s + 1) → Sok A (aNm A q) dp (aCf A (s + 1)) i
/-- the reference's tables, from the places ko, ro, so, co on -/
def PR (A : AP) (ko ro so co : Nat) (I : IM) : Prop := (∀ k, k < 22 → (aRo A k = -1 → I A_ruleOf (ko + k) = -1) ∧ ∀ q, q < aNr A → aRo A k = nI q → I A_ruleOf (ko + k) = nI (ro + q)) ∧ (∀ q, q < aNr A → I A_ruleFrom (ro + q) = nI (so + aSf A q) ∧ I A_ruleTo (ro + q) = nI (so + aSf A (q + 1)) ∧ I A_named (ro + q) = aNm A q) ∧ (∀ s, s < aNs A → I A_statementKind (so + s) = aSk A s ∧ I A_statementFrom (so + s) = nI (co + aCf A s) ∧ I A_statementTo (so + s) = nI (co + aCf A (s + 1))) ∧ ∀ i, i < aNc A → I A_code0 (co + i) = aCd A i ∧ (isJ (aCd A i) → I A_codeValue (co + i) = aCv A i + nI co) ∧ (¬ isJ (aCd A i) → I A_codeValue (co + i) = aCv A i)
/-- what the reference has of the policy at hand alone -/
def PH (A : AP) (I : IM) : Prop := (∀ s, s < aNs A → I A_statementAt s = aSa A s) ∧ I MO 15 = nI (aNc A) ∧ I MO 18 = nI (aNs A) ∧ I MO 23 = nI (aNr A)
/-- the class's policy at p -/
def PC (A : AP) (p : Nat) (I : IM) : Prop := (∀ k, k < 22 → (aRo A k = -1 → I (p + 5) k = -1) ∧ ∀ q, q < aNr A → aRo A k = nI q → I (p + 5) k = aNm A q ∧ I (p + 3) k = nI (aCf A (aSf A q) + aSf A q) ∧ I (p + 4) k = nI (aCf A (aSf A (q + 1)) + aSf A (q + 1)) ∧ ∃ T, T < 8 ∧ I (p + 6) k = nI T ∧ ∀ j, j < 3 → (T / 2 ^ j % 2 = 1 ↔ aTe A q (51 + j))) ∧ (∀ s, s < aNs A → I (p + 1) (aCf A (s + 1) + s) = aSk A s - 9 ∧ I (p + 2) (aCf A (s + 1) + s) = aSa A s) ∧ ∀ s, s < aNs A → ∀ i, aCf A s ≤ i → i < aCf A (s + 1) → I (p + 1) (i + s) = trS (aCd A i) ∧ I (p + 2) (i + s) = trX (aCd A i) (aCv A i) s
/-- the policies between two calls; KT: what a kept text says of the policy at hand -/
def PXk (KT : (Nat → Int32) → Int32 → AP → Prop) (rl : Nat) (I : IM) : Prop := isPol rl ∧ ∃ A B : AP, WF A ∧ WF B ∧ PR A 0 0 0 0 I ∧ PH A I ∧ PC A rl I ∧ PR B 22 301 300 1000 I ∧ PC B 48 I ∧ KT (I A_kept) (I MO 32) A
theorem PR_c {A : AP} {ko ro so co : Nat} {I I' : IM} (e1 : I' A_ruleOf = I A_ruleOf) (e2 : I' A_ruleFrom = I A_ruleFrom) (e3 : I' A_ruleTo = I A_ruleTo) (e4 : I' A_named = I A_named) (e5 : I' A_statementKind = I A_statementKind) (e6 : I' A_statementFrom = I A_statementFrom) (e7 : I' A_statementTo = I A_statementTo) (e8 : I' A_code0 = I A_code0) (e9 : I' A_codeValue = I A_codeValue) (h : PR A ko ro so co I) : PR A ko ro so co I' := by
  unfold PR at h ⊢
  rw [e1, e2, e3, e4, e5, e6, e7, e8, e9]
  exact h
theorem PC_c {A : AP} {p : Nat} {I I' : IM} (e : ∀ j, j < 7 → I' (p + j) = I (p + j)) (h : PC A p I) : PC A p I' := by
  unfold PC at h ⊢
  rw [e 1 (by decide), e 2 (by decide), e 3 (by decide), e 4 (by decide), e 5 (by decide), e 6 (by decide)]
  exact h
theorem PXk_F {KT : (Nat → Int32) → Int32 → AP → Prop} : PXF (PXk KT) := by
  rintro rl I I' ⟨h1, h2, h3, h4, h5, h6, h7⟩ ⟨hp, A, B, w1, w2, r1, r2, c1, r3, c3, kt⟩
  have g : ∀ {C : AP} {ko ro so co : Nat}, PR C ko ro so co I → PR C ko ro so co I' := fun h => PR_c (h1 114 (by decide)) (h1 112 (by decide)) (h1 113 (by decide)) (h1 115 (by decide)) (h1 108 (by decide)) (h1 110 (by decide)) (h1 111 (by decide)) h2 (h1 107 (by decide)) h
  refine ⟨hp, A, B, w1, w2, g r1, ?_, PC_c (h7 rl hp) c1, g r3, PC_c (h7 48 (Or.inr (Or.inl rfl))) c3, ?_⟩
  · unfold PH at r2 ⊢
    rw [show I' A_statementAt = I A_statementAt from h1 109 (by decide), h3, h4, h5]
    exact r2
  · rw [show I' A_kept = I A_kept from h1 118 (by decide), h6]
    exact kt
