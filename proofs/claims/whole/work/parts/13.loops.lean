/-! for loops: states by what has been done so far -/
theorem GG_eq {Δ : Dx} {mi : MI} {Γ : Cx} {n k c : Nat} {σ σ' : St} {pc : Nat} {lv lv' : List (Option Value)} {st st' : List Value} (h : GG Δ mi Γ n k c σ pc lv st) (h1 : σ = σ') (h2 : lv = lv') (h3 : st = st') : GG Δ mi Γ n k c σ' pc lv' st' := by
  subst h1; subst h2; subst h3; exact h
/-- the first k places of these cells are 0 -/
def zf (I : Nat → Nat → Int32) (as : List Nat) (k : Nat) : Nat → Nat → Int32 := fun a j => if a ∈ as ∧ j < k then 0 else I a j
theorem zf_0 {I : Nat → Nat → Int32} {as : List Nat} : zf I as 0 = I := by
  funext a j
  unfold zf
  rw [if_neg (by omega)]
theorem zf_1 {I : Nat → Nat → Int32} {a k : Nat} : up (zf I [a] k) a k 0 = zf I [a] (k + 1) := by
  funext b j
  rw [up_at]
  unfold zf
  simp only [List.mem_cons, List.not_mem_nil, or_false]
  by_cases h : b = a
  · subst h
    by_cases h2 : j = k
    · subst h2
      rw [if_pos ⟨rfl, rfl⟩, if_pos ⟨rfl, by omega⟩]
    · rw [if_neg (fun q => h2 q.2)]
      by_cases h3 : j < k
      · rw [if_pos ⟨rfl, h3⟩, if_pos ⟨rfl, by omega⟩]
      · rw [if_neg (fun q => h3 q.2), if_neg (fun q => by omega)]
  · rw [if_neg (fun q => h q.1), if_neg (fun q => h q.1), if_neg (fun q => h q.1)]
theorem zf_cons {I : Nat → Nat → Int32} {a : Nat} {as : List Nat} {k : Nat} : zf (zf I as k) [a] k = zf I (a :: as) k := by
  funext b j
  unfold zf
  simp only [List.mem_cons, List.not_mem_nil, or_false]
  by_cases h : b = a
  · by_cases h3 : j < k
    · rw [if_pos ⟨h, h3⟩, if_pos ⟨Or.inl h, h3⟩]
    · rw [if_neg (fun q => h3 q.2), if_neg (fun q => h3 q.2), if_neg (fun q => h3 q.2)]
  · rw [if_neg (fun q => h q.1)]
    by_cases h2 : b ∈ as
    · by_cases h3 : j < k
      · rw [if_pos ⟨h2, h3⟩, if_pos ⟨Or.inr h2, h3⟩]
      · rw [if_neg (fun q => h3 q.2), if_neg (fun q => h3 q.2)]
    · rw [if_neg (fun q => h2 q.1), if_neg (fun q => q.1.elim h h2)]
theorem up_comm {I : Nat → Nat → Int32} {a b k j : Nat} {x y : Int32} (h : a ≠ b) : up (up I a k x) b j y = up (up I b j y) a k x := by
  funext c i
  rw [up_at, up_at, up_at, up_at]
  by_cases h1 : c = b ∧ i = j
  · rw [if_pos h1, if_neg (fun q => h (q.1.symm.trans h1.1)), if_pos h1]
  · rw [if_neg h1]
    by_cases h2 : c = a ∧ i = k
    · rw [if_pos h2, if_pos h2]
    · rw [if_neg h2, if_neg h2, if_neg h1]
theorem zf_2 {I : Nat → Nat → Int32} {a b k : Nat} : up (up (zf I [a, b] k) a k 0) b k 0 = zf I [a, b] (k + 1) := by
  funext d j
  rw [up_at, up_at]
  unfold zf
  simp only [List.mem_cons, List.not_mem_nil, or_false]
  rcases Nat.lt_trichotomy j k with q | q | q
  · have q1 : j ≠ k := by omega
    have q2 : j < k + 1 := by omega
    by_cases h1 : d = a <;> by_cases h2 : d = b <;> simp [q, q1, q2, h1, h2]
  · subst q
    by_cases h1 : d = a <;> by_cases h2 : d = b <;> simp [h1, h2]
  · have q1 : j ≠ k := by omega
    have q2 : ¬ j < k + 1 := by omega
    have q3 : ¬ j < k := by omega
    by_cases h1 : d = a <;> by_cases h2 : d = b <;> simp [q1, q2, q3, h1, h2]
theorem zf_3 {I : Nat → Nat → Int32} {a b c k : Nat} : up (up (up (zf I [a, b, c] k) a k 0) b k 0) c k 0 = zf I [a, b, c] (k + 1) := by
  funext d j
  rw [up_at, up_at, up_at]
  unfold zf
  simp only [List.mem_cons, List.not_mem_nil, or_false]
  rcases Nat.lt_trichotomy j k with q | q | q
  · have q1 : j ≠ k := by omega
    have q2 : j < k + 1 := by omega
    by_cases h1 : d = a <;> by_cases h2 : d = b <;> by_cases h5 : d = c <;> simp [q, q1, q2, h1, h2, h5]
  · subst q
    by_cases h1 : d = a <;> by_cases h2 : d = b <;> by_cases h5 : d = c <;> simp [h1, h2, h5]
  · have q1 : j ≠ k := by omega
    have q2 : ¬ j < k + 1 := by omega
    have q3 : ¬ j < k := by omega
    by_cases h1 : d = a <;> by_cases h2 : d = b <;> by_cases h5 : d = c <;> simp [q1, q2, q3, h1, h2, h5]
/-- the first k places of b are those of a -/
def cpf (I : Nat → Nat → Int32) (a b k : Nat) : Nat → Nat → Int32 := fun d j => if d = b ∧ j < k then I a j else I d j
theorem cpf_0 {I : Nat → Nat → Int32} {a b : Nat} : cpf I a b 0 = I := by
  funext d j
  unfold cpf
  rw [if_neg (by omega)]
theorem cpf_s {I : Nat → Nat → Int32} {a b k : Nat} (h : a ≠ b) : up (cpf I a b k) b k (cpf I a b k a k) = cpf I a b (k + 1) := by
  funext d j
  rw [up_at]
  unfold cpf
  rcases Nat.lt_trichotomy j k with q | q | q
  · have q1 : j ≠ k := by omega
    have q2 : j < k + 1 := by omega
    by_cases h2 : d = b <;> simp [q, q1, q2, h, h2]
  · subst q
    by_cases h2 : d = b <;> simp [h, h2]
  · have q1 : j ≠ k := by omega
    have q2 : ¬ j < k + 1 := by omega
    have q3 : ¬ j < k := by omega
    by_cases h2 : d = b <;> simp [q1, q2, q3, h, h2]
/-- from the end of a count down to its beginning -/
theorem down {P : Nat → Prop} (n : Nat) (h : P n) (hs : ∀ k, k < n → P (k + 1) → P k) : P 0 := by
  have key : ∀ d k, k + d = n → P k := by
    intro d
    induction d with
    | zero => intro k e; rw [Nat.add_zero] at e; subst e; exact h
    | succ d ih => intro k e; exact hs k (by omega) (ih (k + 1) (by omega))
  exact key n 0 (by omega)
/-- locals that nobody needs any more -/
def dr (lv : List (Option Value)) : List Nat → List (Option Value)
  | [] => lv
  | i :: is => dr (lv.set i none) is
theorem lvh_set {ls : Array Slot} {n i : Nat} {lv : List (Option Value)} (h : lvh ls n lv) : lvh ls n (lv.set i none) := by
  refine ⟨h.1, h.2.1, fun j v hj => ?_⟩
  rw [List.getElem?_set] at hj
  by_cases e : i = j
  · rw [if_pos e] at hj
    split at hj <;> cases hj
  · rw [if_neg e] at hj
    exact h.2.2 j v hj
theorem lvh_dr {ls : Array Slot} {n : Nat} : ∀ (is : List Nat) {lv : List (Option Value)}, lvh ls n lv → lvh ls n (dr lv is)
  | [], _, h => h
  | _ :: is, _, h => lvh_dr is (lvh_set h)
theorem g_drop {Δ : Dx} {mi : MI} {Γ : Cx} {n k c : Nat} {σ : St} {pc : Nat} {lv : List (Option Value)} {st : List Value} (is : List Nat) (h : GG Δ mi Γ n k c σ pc (dr lv is) st) : GG Δ mi Γ n k c σ pc lv st := fun ok H locs ls hP hS hl => h ok H locs ls hP hS (lvh_dr is hl)
