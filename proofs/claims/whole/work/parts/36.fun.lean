/-! methods as functions into Option: none where an index is wrong or no fuel is left -/
abbrev IM : Type := Nat → Nat → Int32
abbrev JM : Type := Nat → Nat → Int64
/-- an index within a row (the kit's word for it, as one that can be decided) -/
abbrev inb (i : Int32) (n : Nat) : Prop := ¬ (i < 0 ∨ n ≤ i.toNatClampNeg)
def chk {α : Type} (p : Prop) [Decidable p] (o : Option α) : Option α := if p then o else none
def lt {α β : Type} (x : α) (f : α → β) : β := f x
theorem chk_e {α : Type} {p : Prop} [Decidable p] {o : Option α} {r : α} (h : chk p o = some r) : p ∧ o = some r := by
  unfold chk at h
  split at h
  · exact ⟨‹_›, h⟩
  · cases h
theorem chk_i {α : Type} {p : Prop} [Decidable p] {o : Option α} (h : p) : chk p o = o := if_pos h
theorem lt_e {α β : Type} {x y : α} {f : α → Option β} {r : β} (h : lt x f = some r) (e : y = x) : f y = some r := by rw [e]; exact h
theorem bnd_e {α β : Type} {o : Option α} {f : α → Option β} {r : β} (h : Option.bind o f = some r) : ∃ v, o = some v ∧ f v = some r := by
  cases o with
  | none => cases h
  | some v => exact ⟨v, rfl, h⟩
theorem bnd_i {α β : Type} {o : Option α} {f : α → Option β} {v : α} (h : o = some v) : Option.bind o f = f v := by rw [h]; rfl
theorem ite_t {α : Type} {c : Prop} [Decidable c] {a b : Option α} {r : α} (h : (if c then a else b) = some r) (q : c) : a = some r := by rwa [if_pos q] at h
theorem ite_f {α : Type} {c : Prop} [Decidable c] {a b : Option α} {r : α} (h : (if c then a else b) = some r) (q : ¬ c) : b = some r := by rwa [if_neg q] at h
/-- an array's length, by its cell -/
def lenA (a : Nat) : Nat := match sh a with
  | .inl (_, n) => n
  | _ => 0
abbrev isA (a : Nat) : Prop := Ar NN a .int (lenA a)
