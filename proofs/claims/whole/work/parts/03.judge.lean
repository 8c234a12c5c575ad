/-! the heap as numbers: a state of all cells, the judgement of a method's body over it, the contract of a method -/
/-- what the cells hold: ints, longs, references, each by cell and place -/
abbrev St : Type := (Nat → Nat → Int32) × (Nat → Nat → Int64) × (Nat → Nat → Value)
def upA {α : Type} (f : Nat → α) (a : Nat) (g : α) : Nat → α := fun b => if b = a then g else f b
def stI (σ : St) (a k : Nat) (x : Int32) : St := (upA σ.1 a (upd (σ.1 a) k x), σ.2)
def stJ (σ : St) (a k : Nat) (x : Int64) : St := (σ.1, upA σ.2.1 a (vp_updL (σ.2.1 a) k x), σ.2.2)
def stR (σ : St) (a k : Nat) (v : Value) : St := (σ.1, σ.2.1, upA σ.2.2 a (updV (σ.2.2 a) k v))
def fk (t : FieldType) : Nat := match t with
  | .int => 0
  | .boolean => 0
  | .byte => 0
  | .char => 0
  | .short => 0
  | .long => 1
  | _ => 2
def fv (ci : Nat) (σ : St) (a k : Nat) : Value := match fk (tyF ci k) with
  | 0 => .int (σ.1 a k)
  | 1 => .long (σ.2.1 a k)
  | _ => σ.2.2 a k
def aco (ty : FieldType) (σ : St) (a : Nat) : (Nat → Int32) ⊕ (Nat → Int64) ⊕ (Nat → UInt32) ⊕ (Nat → UInt64) ⊕ (Nat → Option Nat) := match fk ty with
  | 1 => .inr (.inl (σ.2.1 a))
  | _ => .inl (σ.1 a)
def cellO (ca : FieldType → ClassId) (σ : St) (a : Nat) : va_E := match sh a with
  | .inl (ty, n) => .inl (ca ty, n, aco ty σ a)
  | .inr ci => .inr (ci, (List.range (nmF ci)).map (fv ci σ a))
/-- the cells that the program makes itself: at most two rows of bytes; what lies at 200 to 203 tells of them (length and place as refs, bytes as longs) -/
def rN (v : Value) : Nat := match v with
  | .ref q => q
  | _ => 0
def btJ (x : Int64) : Int32 := vp_nar .byte x.toInt32
/-- where the second row may begin: behind the first, if there is one -/
def bO (V : Nat → Nat → Value) : Nat := if rN (V 201 6) = 0 then 0 else rN (V 201 7) + 1
def dyO (ca : FieldType → ClassId) (base : Nat) (σ : St) : va_W := (if rN (σ.2.2 201 6) = 0 then [] else [(base + 142 + rN (σ.2.2 201 7), .inl (ca .byte, rN (σ.2.2 201 6), .inl (fun k => btJ (σ.2.1 200 k))))]) ++ (if rN (σ.2.2 203 6) = 0 then [] else [(base + 142 + bO σ.2.2 + rN (σ.2.2 203 7), .inl (ca .byte, rN (σ.2.2 203 6), .inl (fun k => btJ (σ.2.1 202 k))))])
def dyN (ca : FieldType → ClassId) (base n : Nat) (σ : St) : va_W := if n = 142 then dyO ca base σ else []
def wsO (ca : FieldType → ClassId) (base n : Nat) (σ : St) : va_W := (List.range n).map (fun a => (base + a, cellO ca σ a)) ++ dyN ca base n σ
def tysO (ca : FieldType → ClassId) : List (ClassId × FieldType) := [(ca .int, .int), (ca .long, .long), (ca .char, .char), (ca .byte, .byte)]
theorem wsO_at {ca : FieldType → ClassId} {base n : Nat} {σ : St} {a : Nat} (h : a < n) : (wsO ca base n σ)[a]? = some (base + a, cellO ca σ a) := by
  unfold wsO
  rw [List.getElem?_append_left (by rw [List.length_map, List.length_range]; exact h), List.getElem?_map, List.getElem?_range h]
  rfl
theorem wsO_dy {ca : FieldType → ClassId} {base : Nat} {σ : St} {i : Nat} : (wsO ca base 142 σ)[142 + i]? = (dyO ca base σ)[i]? := by
  unfold wsO dyN
  rw [if_pos rfl, List.getElem?_append_right (by rw [List.length_map, List.length_range]; omega), List.length_map, List.length_range, Nat.add_sub_cancel_left]
theorem wsO_get {ca : FieldType → ClassId} {base n : Nat} {σ : St} {i : Nat} {p : Nat × va_E} (h : (wsO ca base n σ)[i]? = some p) : (i < n ∧ p.1 = base + i) ∨ (n ≤ i ∧ n = 142 ∧ (dyO ca base σ)[i - n]? = some p) := by
  by_cases hi : i < n
  · rw [wsO_at hi] at h
    cases h
    exact Or.inl ⟨hi, rfl⟩
  · unfold wsO dyN at h
    rw [List.getElem?_append_right (by rw [List.length_map, List.length_range]; omega), List.length_map, List.length_range] at h
    by_cases hn : n = 142
    · rw [if_pos hn] at h
      exact Or.inr ⟨by omega, hn, h⟩
    · rw [if_neg hn] at h
      cases h
/-- what the two rows hang on -/
theorem dyO_eq {ca : FieldType → ClassId} {base : Nat} {σ σ' : St} (h0 : cellO ca σ' 200 = cellO ca σ 200) (h1 : cellO ca σ' 201 = cellO ca σ 201) (h2 : cellO ca σ' 202 = cellO ca σ 202) (h3 : cellO ca σ' 203 = cellO ca σ 203) : dyO ca base σ' = dyO ca base σ := by
  have c : ∀ a, sh a = .inl (.long, 0) → cellO ca σ' a = cellO ca σ a → σ'.2.1 a = σ.2.1 a := fun a hs h => by
    unfold cellO at h
    rw [hs] at h
    have h' : (Sum.inl (ca .long, 0, .inr (.inl (σ'.2.1 a))) : va_E) = Sum.inl (ca .long, 0, .inr (.inl (σ.2.1 a))) := h
    injection h' with h'
    injection h' with _ h'
    injection h' with _ h'
    injection h' with h'
    injection h' with h'
  have r : ∀ a, sh a = .inr 1 → cellO ca σ' a = cellO ca σ a → σ'.2.2 a 6 = σ.2.2 a 6 ∧ σ'.2.2 a 7 = σ.2.2 a 7 := fun a hs h => by
    unfold cellO at h
    rw [hs] at h
    have h' : (Sum.inr (1, (List.range (nmF 1)).map (fv 1 σ' a)) : va_E) = Sum.inr (1, (List.range (nmF 1)).map (fv 1 σ a)) := h
    injection h' with h'
    injection h' with _ h'
    have e : ∀ k, k < 11 → fv 1 σ' a k = fv 1 σ a k := fun k hk => by
      have := congrArg (fun l => l[k]?) h'
      rw [List.getElem?_map, List.getElem?_map, List.getElem?_range (show k < nmF 1 from hk)] at this
      exact Option.some.inj this
    exact ⟨e 6 (by decide), e 7 (by decide)⟩
  obtain ⟨r1, r2⟩ := r 201 rfl h1
  obtain ⟨r3, r4⟩ := r 203 rfl h3
  unfold dyO bO
  rw [c 200 rfl h0, c 202 rfl h2, r1, r2, r3, r4]
theorem wsO_set {ca : FieldType → ClassId} {base n : Nat} {σ σ' : St} {a : Nat} (h : a < n) (ho : ∀ b, b ≠ a → cellO ca σ' b = cellO ca σ b) : (wsO ca base n σ).set a (base + a, cellO ca σ' a) = wsO ca base n σ' := by
  have hd : dyN ca base n σ' = dyN ca base n σ := by
    unfold dyN
    by_cases hn : n = 142
    · rw [if_pos hn, if_pos hn]
      exact dyO_eq (ho 200 (by omega)) (ho 201 (by omega)) (ho 202 (by omega)) (ho 203 (by omega))
    · rw [if_neg hn, if_neg hn]
  unfold wsO
  rw [List.set_append_left _ _ (by rw [List.length_map, List.length_range]; exact h), hd]
  congr 1
  apply List.ext_getElem?
  intro b
  rw [List.getElem?_set]
  by_cases hb : a = b
  · subst hb
    rw [if_pos rfl, List.length_map, List.length_range, if_pos h, List.getElem?_map, List.getElem?_range h]
    rfl
  · rw [if_neg hb]
    by_cases hn : b < n
    · rw [List.getElem?_map, List.getElem?_map, List.getElem?_range hn]
      show some (base + b, cellO ca σ b) = some (base + b, cellO ca σ' b)
      rw [ho b (fun e => hb e.symm)]
    · rw [List.getElem?_eq_none (by rw [List.length_map, List.length_range]; omega), List.getElem?_eq_none (by rw [List.length_map, List.length_range]; omega)]
theorem dyO_p {ca : FieldType → ClassId} {base : Nat} {σ : St} {i : Nat} {p : Nat × va_E} (h : (dyO ca base σ)[i]? = some p) : base + 142 ≤ p.1 ∧ ∀ (j : Nat) (q : Nat × va_E), (dyO ca base σ)[j]? = some q → p.1 = q.1 → i = j := by
  unfold dyO at h ⊢
  by_cases h1 : rN (σ.2.2 201 6) = 0 <;> by_cases h2 : rN (σ.2.2 203 6) = 0
  · rw [if_pos h1, if_pos h2] at h
    cases h
  · rw [if_pos h1, if_neg h2] at h
    rw [if_pos h1, if_neg h2]
    match i, h with
    | 0, h =>
      cases h
      refine ⟨by show _ ≤ base + 142 + bO σ.2.2 + rN (σ.2.2 203 7); omega, fun j q hq _ => ?_⟩
      match j, hq with
      | 0, _ => rfl
      | j + 1, hq => cases hq
    | i + 1, h => cases h
  · rw [if_neg h1, if_pos h2] at h
    rw [if_neg h1, if_pos h2]
    match i, h with
    | 0, h =>
      cases h
      refine ⟨by show _ ≤ base + 142 + rN (σ.2.2 201 7); omega, fun j q hq _ => ?_⟩
      match j, hq with
      | 0, _ => rfl
      | j + 1, hq => cases hq
    | i + 1, h => cases h
  · rw [if_neg h1, if_neg h2] at h
    rw [if_neg h1, if_neg h2]
    match i, h with
    | 0, h =>
      cases h
      refine ⟨by show _ ≤ base + 142 + rN (σ.2.2 201 7); omega, fun j q hq he => ?_⟩
      match j, hq with
      | 0, _ => rfl
      | 1, hq =>
        cases hq
        have he' : base + 142 + rN (σ.2.2 201 7) = base + 142 + bO σ.2.2 + rN (σ.2.2 203 7) := he
        have hb : bO σ.2.2 = rN (σ.2.2 201 7) + 1 := if_neg h1
        omega
      | j + 2, hq => cases hq
    | 1, h =>
      cases h
      refine ⟨by show _ ≤ base + 142 + bO σ.2.2 + rN (σ.2.2 203 7); omega, fun j q hq he => ?_⟩
      match j, hq with
      | 0, hq =>
        cases hq
        have he' : base + 142 + bO σ.2.2 + rN (σ.2.2 203 7) = base + 142 + rN (σ.2.2 201 7) := he
        have hb : bO σ.2.2 = rN (σ.2.2 201 7) + 1 := if_neg h1
        omega
      | 1, _ => rfl
      | j + 2, hq => cases hq
    | i + 2, h => cases h
theorem wsO_D {ca : FieldType → ClassId} {base n : Nat} {σ : St} : va_D (fun q => base ≤ q) (wsO ca base n σ) := by
  refine ⟨fun i j p q hi hj he => ?_, fun k q hk => ?_⟩
  · rcases wsO_get hi with ⟨a1, a2⟩ | ⟨a1, a2, a3⟩ <;> rcases wsO_get hj with ⟨b1, b2⟩ | ⟨b1, b2, b3⟩
    · omega
    · have := (dyO_p b3).1
      omega
    · have := (dyO_p a3).1
      omega
    · have := (dyO_p a3).2 _ _ b3 he
      omega
  · rcases wsO_get hk with ⟨a1, a2⟩ | ⟨a1, a2, a3⟩
    · show base ≤ q.1
      omega
    · have := (dyO_p a3).1
      show base ≤ q.1
      omega
/-- an object of class ci at cell a; an array -/
abbrev Ob (n a ci : Nat) : Prop := a < n ∧ sh a = .inr ci
abbrev Ar (n a : Nat) (ty : FieldType) (len : Nat) : Prop := a < n ∧ sh a = .inl (ty, len)
theorem cellO_ob {ca : FieldType → ClassId} {σ : St} {a ci : Nat} (h : sh a = .inr ci) : cellO ca σ a = .inr (ci, (List.range (nmF ci)).map (fv ci σ a)) := by
  unfold cellO
  rw [h]
theorem cellO_ar {ca : FieldType → ClassId} {σ : St} {a len : Nat} {ty : FieldType} (h : sh a = .inl (ty, len)) (hk : fk ty = 0) : cellO ca σ a = .inl (ca ty, len, .inl (σ.1 a)) := by
  unfold cellO
  rw [h]
  show Sum.inl (ca ty, len, aco ty σ a) = _
  unfold aco
  rw [hk]
  rfl
theorem cellO_al {ca : FieldType → ClassId} {σ : St} {a len : Nat} {ty : FieldType} (h : sh a = .inl (ty, len)) (hk : fk ty = 1) : cellO ca σ a = .inl (ca ty, len, .inr (.inl (σ.2.1 a))) := by
  unfold cellO
  rw [h]
  show Sum.inl (ca ty, len, aco ty σ a) = _
  unfold aco
  rw [hk]
  rfl
theorem cellO_I {ca : FieldType → ClassId} {σ : St} {a b k : Nat} {x : Int32} (h : b ≠ a) : cellO ca (stI σ a k x) b = cellO ca σ b := by
  have e : ∀ ci j, fv ci (stI σ a k x) b j = fv ci σ b j := fun ci j => by
    unfold fv stI upA
    simp only [if_neg h]
  unfold cellO
  have e2 : (stI σ a k x).1 b = σ.1 b := by unfold stI upA; simp only [if_neg h]
  have e3 : (stI σ a k x).2 = σ.2 := rfl
  split
  · unfold aco
    rw [e2, e3]
  · congr 2
    exact List.map_congr_left (fun j _ => e _ j)
theorem cellO_J {ca : FieldType → ClassId} {σ : St} {a b k : Nat} {x : Int64} (h : b ≠ a) : cellO ca (stJ σ a k x) b = cellO ca σ b := by
  have e : ∀ ci j, fv ci (stJ σ a k x) b j = fv ci σ b j := fun ci j => by
    unfold fv stJ upA
    simp only [if_neg h]
  unfold cellO
  have e2 : (stJ σ a k x).2.1 b = σ.2.1 b := by unfold stJ upA; simp only [if_neg h]
  have e3 : (stJ σ a k x).1 = σ.1 := rfl
  split
  · unfold aco
    rw [e2, e3]
  · congr 2
    exact List.map_congr_left (fun j _ => e _ j)
theorem cellO_R {ca : FieldType → ClassId} {σ : St} {a b k : Nat} {v : Value} (h : b ≠ a) : cellO ca (stR σ a k v) b = cellO ca σ b := by
  have e : ∀ ci j, fv ci (stR σ a k v) b j = fv ci σ b j := fun ci j => by
    unfold fv stR upA
    simp only [if_neg h]
  unfold cellO
  have e2 : (stR σ a k v).2.1 = σ.2.1 := rfl
  have e3 : (stR σ a k v).1 = σ.1 := rfl
  split
  · unfold aco
    rw [e2, e3]
  · congr 2
    exact List.map_congr_left (fun j _ => e _ j)
theorem fsO_set {ci : Nat} {σ σ' : St} {a k : Nat} {v : Value} (hv : fv ci σ' a k = v) (ho : ∀ j, j ≠ k → fv ci σ' a j = fv ci σ a j) : ((List.range (nmF ci)).map (fv ci σ a)).set k v = (List.range (nmF ci)).map (fv ci σ' a) := by
  apply List.ext_getElem?
  intro j
  rw [List.getElem?_set]
  by_cases hj : k = j
  · subst hj
    rw [if_pos rfl]
    by_cases hn : k < nmF ci
    · rw [List.length_map, List.length_range, if_pos hn, List.getElem?_map, List.getElem?_range hn, ← hv]
      rfl
    · rw [List.length_map, List.length_range, if_neg hn, List.getElem?_eq_none (by rw [List.length_map, List.length_range]; omega)]
  · rw [if_neg hj]
    by_cases hn : j < nmF ci
    · rw [List.getElem?_map, List.getElem?_range hn, List.getElem?_map, List.getElem?_range hn]
      show some (fv ci σ a j) = some (fv ci σ' a j)
      rw [ho j (fun e => hj e.symm)]
    · rw [List.getElem?_eq_none (by rw [List.length_map, List.length_range]; omega), List.getElem?_eq_none (by rw [List.length_map, List.length_range]; omega)]
/-- what is the same for a whole launch: the launch, the classes' numbers, the arrays' classes, the first cell's address, the state and values at the law's start -/
abbrev Dx : Type := Launch × va_G × (FieldType → ClassId) × Nat × State × Array Value
abbrev Dx.ba (Δ : Dx) : Nat := Δ.2.2.2.1
abbrev Dx.W (Δ : Dx) (n : Nat) (σ : St) : va_W := wsO Δ.2.2.1 Δ.2.2.2.1 n σ
abbrev Dx.A (Δ : Dx) : Nat → Prop := fun q => Δ.2.2.2.1 ≤ q
abbrev Dx.s0 (Δ : Dx) : State := Δ.2.2.2.2.1
abbrev Dx.a0 (Δ : Dx) : Array Value := Δ.2.2.2.2.2
/-- what holds of the tables and of what lay in the heap before: the tables are those of the law's start or warmer, the old cells are as they were -/
def Kx (Δ : Dx) (U : State) : Prop := va_K Δ.2.1 vcl (tysO Δ.2.2.1) U ∧ Δ.1.flags = flags0 ∧ (Jvm.Cond.and given_1 narrow_1).before Δ.a0 Δ.s0 = true ∧ (∀ w ∈ lw_tbl, w.before Δ.a0 Δ.s0 = true) ∧ Δ.s0.WarmedH U.vm ∧ Δ.s0.heap.size = Δ.ba ∧ ∀ q : Nat, q < Δ.ba → U.heap[q]? = Δ.s0.heap[q]?
theorem Kx.at {Δ : Dx} {u U : State} {H : Heap} {locs : List Loc} (h : Kx Δ u) (hW : u.WarmedH U.vm) (hU : U.heap = H) (hS : va_S Δ.A u.heap H locs) (hz : Δ.ba ≤ u.heap.size) : Kx Δ U := by
  obtain ⟨h1, h2, h3, h4, h5, h6, h7⟩ := h
  refine ⟨va_K.moved hW.alike h1, h2, h3, h4, State.WarmedH.trans h5 hW, h6, fun q hq => ?_⟩
  rw [hU, hS.2.1 q (Nat.lt_of_lt_of_le hq hz) (fun z => absurd hq (Nat.not_lt.mpr z))]
  exact h7 q hq
/-- a frame: the machine, its room and state at the invocation, the method, and what its end must be: level, answer, cells, state, cells and slots made -/
abbrev Cx : Type := (Program × Env × Room × State) × (MethodId × Array Value × List Frame × Method × Code) × (State → Prop) × Nat
abbrev Cx.p (Γ : Cx) : Program := Γ.1.1
abbrev Cx.e (Γ : Cx) : Env := Γ.1.2.1
abbrev Cx.R (Γ : Cx) : Room := Γ.1.2.2.1
abbrev Cx.s (Γ : Cx) : State := Γ.1.2.2.2
abbrev Cx.m (Γ : Cx) : MethodId := Γ.2.1.1
abbrev Cx.args (Γ : Cx) : Array Value := Γ.2.1.2.1
abbrev Cx.below (Γ : Cx) : List Frame := Γ.2.1.2.2.1
abbrev Cx.meth (Γ : Cx) : Method := Γ.2.1.2.2.2.1
abbrev Cx.c (Γ : Cx) : Code := Γ.2.1.2.2.2.2
abbrev Cx.Q (Γ : Cx) : State → Prop := Γ.2.2.1
abbrev Cx.k (Γ : Cx) : Nat := Γ.2.2.2
def Ok (Δ : Dx) (mi : MI) (Γ : Cx) : Prop := Γ.p.tables.exec = Jvm.exec ∧ Γ.c.code = mi.2.1 ∧ Γ.c.maxLocals = mi.2.2.1 ∧ Γ.s.vm.findClass mi.1.cls = some Γ.m.cls ∧ (∀ w ∈ tb, w.before Γ.args Γ.s = true) ∧ Γ.meth.sig.returnType = mi.2.2.2 ∧ Γ.meth.locks = false ∧ Kx Δ Γ.s ∧ Γ.meth.name = mi.1.name ∧ Δ.ba ≤ Γ.s.heap.size ∧ Γ.k ≤ Γ.R.frames ∧ 60 * Γ.k ≤ Γ.R.locals
def lvh (ls : Array Slot) (nL : Nat) (lv : List (Option Value)) : Prop := ls.size = nL ∧ lv_wf ls ∧ ∀ (i : Nat) (v : Value), lv[i]? = some (some v) → ls[i]? = some (Slot.val v)
/-- from here on (n cells, k of them and c slots made since the entry, the cells hold σ; place, locals, stack) the frame comes to its end -/
def GG (Δ : Dx) (mi : MI) (Γ : Cx) (n k c : Nat) (σ : St) (pc : Nat) (lv : List (Option Value)) (st : List Value) : Prop :=
  Ok Δ mi Γ → ∀ (H : Heap) (locs : List Loc) (ls : Array Slot), va_P Δ.2.1 vcl (Δ.W n σ) H → va_S Δ.A Γ.s.heap H locs → lvh ls mi.2.2.1 lv → W Γ.p Δ.1 Γ.e Γ.R Γ.s Γ.m Γ.args Γ.below Γ.meth Γ.c H locs k c Γ.Q (F0 Γ.m pc ls st)
abbrev G (Δ : Dx) (mi : MI) (Γ : Cx) (σ : St) (pc : Nat) (lv : List (Option Value)) (st : List Value) : Prop := GG Δ mi Γ NN 0 0 σ pc lv st
/-- a method's contract: called with these values over σ it answers r and leaves σ' -/
def Pcx (Δ : Dx) (n : Nat) (as : List Value) (σ : St) : Array Value → State → Prop := fun v U => v = as.toArray ∧ va_P Δ.2.1 vcl (Δ.W n σ) U.heap ∧ Kx Δ U ∧ Δ.ba ≤ U.heap.size
def Qcx (Δ : Dx) (r : Option Value) (n : Nat) (σ : St) : Array Value → State → Outcome → State → Prop := fun _ st o t => o = .returned r ∧ va_P Δ.2.1 vcl (Δ.W n σ) t.heap ∧ va_F Δ.A st t
abbrev rmk (k mc ms : Nat) : Room := { frames := k, cells := mc, slots := ms, locals := 60 * k }
abbrev wsM (mi : MI) : List Cond := .code mi.1 mi.2.1 mi.2.2.1 mi.2.2.2 :: tb
def EvN (Δ : Dx) (k : Nat) (mi : MI) (n : Nat) (as : List Value) (σ : St) (r : Option Value) (n' : Nat) (σ' : St) (mc ms : Nat) : Prop :=
  Met Δ.1 mi.1 (wsM mi) (rmk k mc ms) (Pcx Δ n as σ) (Qcx Δ r n' σ') mc ms Δ.A
abbrev Ev (Δ : Dx) (k : Nat) (mi : MI) (as : List Value) (σ : St) (r : Option Value) (σ' : St) : Prop := EvN Δ k mi NN as σ r NN σ' 0 0
/-- the frame's end is this contract's end -/
def Tg (Δ : Dx) (Γ : Cx) (r : Option Value) (n : Nat) (σ : St) (mc ms : Nat) : Prop := Γ.Q = MQ Γ.below (Qcx Δ r n σ) Γ.args Γ.s mc ms Δ.A
def lv0 (as : List Value) : List (Option Value) := as.flatMap (fun v => if v.category = 2 then [some v, none] else [some v])
