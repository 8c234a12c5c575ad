/-! policy: the reference's pile -/
abbrev bU (x : Int32) : Prop := x = 33 ∨ x = 126 ∨ x = 301
abbrev bS (x : Int32) : Prop := x = 124 ∨ x = 38 ∨ x = 94 ∨ x = 43 ∨ x = 45
abbrev bC (x : Int32) : Prop := x = 202 ∨ x = 203 ∨ x = 60 ∨ x = 204
def tpR (R : IM) (p : Nat) : Int32 := if p = 0 then -1 else R A_pile (p - 1)
theorem isU_1 {x : Int32} {R : IM} (h : bU x) : f_Mod_isUnary x R = some 1 := by
  rcases h with rfl | rfl | rfl <;> rfl
theorem isU_0 {x : Int32} {R : IM} (h : ¬ bU x) : f_Mod_isUnary x R = some 0 := by
  rw [f_Mod_isUnary, if_neg (fun e => h (Or.inl e)), if_neg (fun e => h (Or.inr (Or.inl e))), if_neg (fun e => h (Or.inr (Or.inr e)))]
theorem isS_1 {x : Int32} {R : IM} (h : bS x) : f_Mod_isSum x R = some 1 := by
  rcases h with rfl | rfl | rfl | rfl | rfl <;> rfl
theorem isS_0 {x : Int32} {R : IM} (h : ¬ bS x) : f_Mod_isSum x R = some 0 := by
  rw [f_Mod_isSum, if_neg (fun e => h (Or.inl e)), if_neg (fun e => h (Or.inr (Or.inl e))), if_neg (fun e => h (Or.inr (Or.inr (Or.inl e)))), if_neg (fun e => h (Or.inr (Or.inr (Or.inr (Or.inl e))))), if_neg (fun e => h (Or.inr (Or.inr (Or.inr (Or.inr e)))))]
theorem isC_1 {x : Int32} {R : IM} (h : bC x) : f_Mod_isCompared x R = some 1 := by
  rcases h with rfl | rfl | rfl | rfl <;> rfl
theorem isC_0 {x : Int32} {R : IM} (h : ¬ bC x) : f_Mod_isCompared x R = some 0 := by
  rw [f_Mod_isCompared, if_neg (fun e => h (Or.inl e)), if_neg (fun e => h (Or.inr (Or.inl e))), if_neg (fun e => h (Or.inr (Or.inr (Or.inl e)))), if_neg (fun e => h (Or.inr (Or.inr (Or.inr e))))]
theorem one0 : ¬ (1 : Int32) = 0 := by decide
theorem ps1 {k : Nat} : nI (k + 1) - 1 = nI k := nsb (a := k + 1) (b := 1) (by omega)
theorem top_f {R : IM} {p : Nat} (h : R MO 29 = nI p) (hp : p ≤ 1000) : f_Mod_topOf R = some (tpR R p) := by
  by_cases z : p = 0
  · subst z
    rw [f_Mod_topOf, h, if_pos (show nI 0 = 0 from rfl), b_Mod_topOf_22, tpR, if_pos rfl]
  · have e : nI p - 1 = nI (p - 1) := nsb (a := p) (b := 1) (by omega)
    have n0 : ¬ nI p = 0 := fun y => z (nij (b := 0) (by omega) (by decide) y)
    rw [f_Mod_topOf, h, if_neg n0, e, chk_i (show inb (nI (p - 1)) 1000 from nki (by omega) (by decide)), nkc (by omega), b_Mod_topOf_22, tpR, if_neg z]
theorem RZ_p {p P c q : Nat} {ds : List CIt} {m : Int32} {A B : IM} (hp : p ≤ P) (h : RZ P c q ds m A B) : RZ p c q ds m A B := ⟨h.1, h.2.1, h.2.2.1, fun j hj => h.2.2.2.1 j (by omega), h.2.2.2.2⟩
theorem RZ_l {p c q : Nat} {es : List CIt} {m : Int32} {A B C : IM} (h : RZ p c q [] 0 A B) (g : RZ p c q es m B C) : RZ p c q es m A C := by
  have := RZ_t (Nat.le_refl p) h (show RZ p (c + ([] : List CIt).length) q es m B C from g)
  rw [Int32.zero_or] at this
  exact this
theorem RZ_r {p c q : Nat} {ds : List CIt} {m : Int32} {A B C : IM} (h : RZ p c q ds m A B) (g : RZ p (c + ds.length) q [] 0 B C) : RZ p c q ds m A C := by
  have := RZ_t (Nat.le_refl p) h g
  rw [Int32.or_zero, List.append_nil] at this
  exact this
theorem RZ_u {p c q j : Nat} {A : IM} {v : Int32} (h : j ∈ [10, 11, 12, 13, 14, 15, 28, 29]) : RZ p c q [] 0 A (up A MO j v) := RZ_0 (fun b z => fu z) (fun i hi => up_ne (Or.inr (fun z => hi (by rw [z]; exact h))))
theorem tp_RZ {p P c q : Nat} {ds : List CIt} {m : Int32} {A B : IM} (h : RZ P c q ds m A B) (hp : p ≤ P) : tpR B p = tpR A p := by
  unfold tpR
  by_cases z : p = 0
  · rw [if_pos z, if_pos z]
  · rw [if_neg z, if_neg z, (h.2.2.2.1 (p - 1) (by omega)).1]
theorem RQ_29 {T : Nat → Int32} {N k o p p' c q : Nat} {R : IM} (h : RQ T N k o p c q R) : RQ T N k o p' c q (up R MO 29 (nI p')) := by
  obtain ⟨rb, h14, h28, h29, h15, h23⟩ := h
  exact ⟨RB_u rb (by decide), by rw [up_ne (Or.inr (by decide))]; exact h14, by rw [up_ne (Or.inr (by decide))]; exact h28, up_self, by rw [up_ne (Or.inr (by decide))]; exact h15, by rw [up_ne (Or.inr (by decide))]; exact h23⟩
theorem RQ_28 {T : Nat → Int32} {N k o o' p c q : Nat} {R : IM} (h : RQ T N k o p c q R) : RQ T N k o' p c q (up R MO 28 (nI o')) := by
  obtain ⟨rb, h14, h28, h29, h15, h23⟩ := h
  exact ⟨RB_u rb (by decide), by rw [up_ne (Or.inr (by decide))]; exact h14, up_self, by rw [up_ne (Or.inr (by decide))]; exact h29, by rw [up_ne (Or.inr (by decide))]; exact h15, by rw [up_ne (Or.inr (by decide))]; exact h23⟩
theorem RQ_a {T : Nat → Int32} {N k o p c q a j : Nat} {v : Int32} {R : IM} (ha : a ≠ MO) (hs : a ≠ A_signs) (h : RQ T N k o p c q R) : RQ T N k o p c q (up R a j v) := by
  obtain ⟨rb, h14, h28, h29, h15, h23⟩ := h
  have e : (up R a j v) MO = R MO := fu (fun y => ha y.symm)
  exact ⟨RB_c rb (fun i _ => by rw [e]) (fu (fun y => hs y.symm)), by rw [e]; exact h14, by rw [e]; exact h28, by rw [e]; exact h29, by rw [e]; exact h15, by rw [e]; exact h23⟩
/-- unary signs that wait, the last one first -/
def PU (R : IM) (p : Nat) : List Int32 → Prop
  | [] => True
  | u :: us => R A_pile (p + us.length) = u ∧ bU u ∧ PU R p us
def uI (us : List Int32) : List CIt := us.map (fun u => (u, 0))
theorem uI_l {us : List Int32} : (uI us).length = us.length := List.length_map _
theorem PU_c {R R' : IM} {p : Nat} : ∀ (us : List Int32), (∀ j, j < p + us.length → R' A_pile j = R A_pile j) → PU R p us → PU R' p us
  | [], _, _ => trivial
  | u :: us, e, ⟨a, b, c⟩ => ⟨by rw [e _ (by rw [List.length_cons]; omega)]; exact a, b, PU_c us (fun j hj => e j (by rw [List.length_cons]; omega)) c⟩
theorem rfU {u : Int32} {c : Nat} (h : bU u) : rfV (u, 0) c = 0 := by
  rcases h with rfl | rfl | rfl <;> rfl
theorem whl_1 {T : Nat → Int32} {N n k O P c q g : Nat} {R : IM} {u : Int32} (h : RQ T N k (O + 1) (P + 1) c q R) (e : R A_pile P = u) (hu : bU u) (hc : c < 1000) (hP : P + 1 < 1000) : ∃ R', l_Mod_whole_0 n (g + 1) R = l_Mod_whole_0 n g R' ∧ RQ T N k O P (c + 1) q R' ∧ RZ P c q [(u, 0)] 0 R R' := by
  obtain ⟨rb, h14, h28, h29, h15, h23⟩ := id h
  have n0 : ¬ nI (P + 1) ≤ 0 := fun y => by have := (nle (a := P + 1) (b := 0) (by omega) (by decide)).mp y; omega
  have hD : RQ T N k O P c q (up (up R MO 29 (nI P)) MO 28 (nI O)) := RQ_28 (RQ_29 h)
  obtain ⟨R1, e1, e2, e3, -⟩ := rEm (d := (u, 0)) hc hD rfl (rfU hu)
  refine ⟨R1, ?_, e2, RZ_l (RZ_l (RZ_u (by decide)) (RZ_u (by decide))) e3⟩
  have tp : f_Mod_topOf R = some u := by rw [top_f h29 (by omega), tpR, if_neg (by omega), Nat.add_sub_cancel, e]
  have d1 : (up R MO 29 (nI P)) MO 28 = nI (O + 1) := by rw [up_ne (Or.inr (by decide))]; exact h28
  have d2 : (up (up R MO 29 (nI P)) MO 28 (nI O)) MO 29 = nI P := by rw [up_ne (Or.inr (by decide))]; exact up_self
  have d3 : (up (up R MO 29 (nI P)) MO 28 (nI O)) A_pile P = u := by rw [fu (by decide), fu (by decide)]; exact e
  rw [l_Mod_whole_0, h29, if_neg n0, tp, Option.bind_some, isU_1 hu, Option.bind_some, if_neg one0, lt, ps1, d1, lt, ps1, d2, chk_i (show inb (nI P) 1000 from nki (by omega) (by decide)), nkc (by omega), d3, e1, Option.bind_some]
theorem whl {T : Nat → Int32} {N n k q : Nat} : ∀ (us : List Int32) (o p c f : Nat) (R : IM), RQ T N k (o + us.length) (p + us.length) c q R → PU R p us → ¬ bU (tpR R p) → c + us.length < 1000 → p + us.length < 1000 → us.length < f → ∃ R', l_Mod_whole_0 n f R = some R' ∧ RQ T N k o p (c + us.length) q R' ∧ RZ p c q (uI us) 0 R R'
  | [], o, p, c, f, R, h, _, nt, _, hp, hf => by
    obtain ⟨g, rfl⟩ : ∃ g, f = g + 1 := ⟨f - 1, by have : 0 < f := hf; omega⟩
    have h29 : R MO 29 = nI p := h.2.2.2.1
    refine ⟨R, ?_, h, RZ_0 (fun _ _ => rfl) (fun _ _ => rfl)⟩
    have hp' : p < 1000 := hp
    by_cases z : nI p ≤ 0
    · rw [l_Mod_whole_0, h29, if_pos z, b_Mod_whole_55]
    · rw [l_Mod_whole_0, h29, if_neg z, top_f h29 (by omega), Option.bind_some, isU_0 nt, Option.bind_some, if_pos rfl, b_Mod_whole_55]
  | u :: us, o, p, c, f, R, h, ⟨a1, a2, a3⟩, nt, hc, hp, hf => by
    rw [List.length_cons] at hc hp hf
    obtain ⟨g, rfl⟩ : ∃ g, f = g + 1 := ⟨f - 1, by omega⟩
    obtain ⟨R1, e1, e2, e3⟩ := whl_1 (n := n) (g := g) (O := o + us.length) (P := p + us.length) h a1 a2 (by omega) (by omega)
    obtain ⟨R2, f1, f2, f3⟩ := whl us o p (c + 1) g R1 e2 (PU_c us (fun j hj => (e3.2.2.2.1 j hj).1) a3) (by rw [tp_RZ e3 (Nat.le_add_right _ _)]; exact nt) (by omega) (by omega) (by omega)
    refine ⟨R2, by rw [e1, f1], ?_, ?_⟩
    · rw [List.length_cons, show c + (us.length + 1) = c + 1 + us.length by omega]; exact f2
    · have := RZ_t (Nat.le_refl p) (RZ_p (Nat.le_add_right p us.length) e3) f3
      rw [Int32.or_zero] at this
      exact this
/-- the fault is told -/
theorem rFl {T : Nat → Int32} {N k : Nat} {R : IM} (rb : RB T N k R) (h14 : R MO 14 = -1) : f_Mod_fail R = some (up R MO 14 (nI (tP T N k))) := by
  rw [f_Mod_fail, h14, if_neg ng1, lt, rb.2.2.1]
theorem pshG {T : Nat → Int32} {N k o o' p c q : Nat} {x pl x3 : Int32} {R : IM} (h : RQ T N k o p c q R) (hp : p < 1000) (e : (if x3 = 0 then R MO 28 else R MO 28 + 1) = nI o') : ∃ R', b_Mod_push_18 x pl x3 R = some R' ∧ RQ T N k o' (p + 1) c q R' ∧ RZ p c q [] 0 R R' ∧ R' A_pile p = x ∧ R' A_pileAt p = pl := by
  have hd : RQ T N k o' (p + 1) c q (up (up (up (up R MO 28 (nI o')) A_pile p x) A_pileAt p pl) MO 29 (nI (p + 1))) := RQ_29 (p := p) (RQ_a (by decide) (by decide) (RQ_a (by decide) (by decide) (RQ_28 h)))
  have h29 := h.2.2.2.1
  have a1 : (up R MO 28 (nI o')) MO 29 = nI p := by rw [up_ne (Or.inr (by decide))]; exact h29
  have a2 : (up (up R MO 28 (nI o')) A_pile p x) MO 29 = nI p := by rw [fu (by decide)]; exact a1
  have a3 : (up (up (up R MO 28 (nI o')) A_pile p x) A_pileAt p pl) MO 29 = nI p := by rw [fu (by decide)]; exact a2
  have ip : inb (nI p) 1000 := nki hp (by decide)
  refine ⟨_, ?_, hd, ⟨trivial, fun j _ => ⟨?_, ?_⟩, ?_, fun j hj => ⟨?_, ?_⟩, RFq_t (RFq_u (by decide)) (RFq_t (RFq_p (Or.inl rfl)) (RFq_t (RFq_p (Or.inr rfl)) (RFq_u (by decide))))⟩, ?_, ?_⟩
  · rw [b_Mod_push_18, e, lt, a1, chk_i ip, lt, nkc (by omega), a2, chk_i ip, lt, nkc (by omega), a3, nk1, lt]
  · rw [fu (by decide), fu (by decide), fu (by decide), fu (by decide)]
  · rw [fu (by decide), fu (by decide), fu (by decide), fu (by decide)]
  · rw [fu (by decide), fu (by decide), fu (by decide), fu (by decide), Int32.or_zero]
  · rw [fu (by decide), fu (by decide), up_ne (Or.inr (by omega)), fu (by decide)]
  · rw [fu (by decide), up_ne (Or.inr (by omega)), fu (by decide), fu (by decide)]
  · rw [fu (by decide), fu (by decide), up_self]
  · rw [fu (by decide), up_self]
theorem psh1 {T : Nat → Int32} {N k o p c q : Nat} {x pl : Int32} {R : IM} (h : RQ T N k o p c q R) (ho : o < 10) (hp : p < 1000) : ∃ R', f_Mod_push x pl 1 R = some R' ∧ RQ T N k (o + 1) (p + 1) c q R' ∧ RZ p c q [] 0 R R' ∧ R' A_pile p = x ∧ R' A_pileAt p = pl := by
  have n10 : ¬ R MO 28 = 10 := fun y => by
    rw [h.2.2.1] at y
    have := nij (b := 10) (by omega) (by decide) y
    omega
  obtain ⟨R', a, b⟩ := pshG (x := x) (pl := pl) (x3 := 1) (o' := o + 1) h hp (by rw [if_neg one0, h.2.2.1, nk1])
  exact ⟨R', by rw [f_Mod_push, if_neg one0, if_neg n10, a], b⟩
theorem psh0 {T : Nat → Int32} {N k o p c q : Nat} {x pl : Int32} {R : IM} (h : RQ T N k o p c q R) (hp : p < 1000) : ∃ R', f_Mod_push x pl 0 R = some R' ∧ RQ T N k o (p + 1) c q R' ∧ RZ p c q [] 0 R R' ∧ R' A_pile p = x ∧ R' A_pileAt p = pl := by
  obtain ⟨R', a, b⟩ := pshG (x := x) (pl := pl) (x3 := 0) (o' := o) h hp (by rw [if_pos rfl, h.2.2.1])
  exact ⟨R', by rw [f_Mod_push, if_pos rfl, a], b⟩
theorem pshF {T : Nat → Int32} {N k p c q : Nat} {x pl : Int32} {R : IM} (h : RQ T N k 10 p c q R) : f_Mod_push x pl 1 R = some (up R MO 14 (nI (tP T N k))) := by
  rw [f_Mod_push, if_neg one0, if_pos (show R MO 28 = 10 from h.2.2.1), rFl h.1 h.2.1, Option.bind_some]
/-- a sign that waits, of sums or of comparing, is emitted -/
theorem popE {T : Nat → Int32} {N k o P c q : Nat} {R : IM} {x : Int32} (h : RQ T N k o (P + 1) c q R) (e : R A_pile P = x) (hx : rfV (x, 0) c = 0) (hc : c < 1000) (hP : P + 1 < 1000) : ∃ R', f_Mod_emit x 0 (up R MO 29 (nI P)) = some R' ∧ RQ T N k o P (c + 1) q R' ∧ RZ P c q [(x, 0)] 0 R R' := by
  obtain ⟨R1, e1, e2, e3, -⟩ := rEm (d := (x, 0)) hc (RQ_29 (p' := P) h) rfl hx
  exact ⟨R1, e1, e2, RZ_l (RZ_u (by decide)) e3⟩
theorem rfS {u : Int32} {c : Nat} (h : bS u) : rfV (u, 0) c = 0 := by
  rcases h with rfl | rfl | rfl | rfl | rfl <;> rfl
theorem rfC {u : Int32} {c : Nat} (h : bC u) : rfV (u, 0) c = 0 := by
  rcases h with rfl | rfl | rfl | rfl <;> rfl
theorem eS_0 {R : IM} {p : Nat} (h29 : R MO 29 = nI p) (hp : p ≤ 1000) (h : ¬ bS (tpR R p)) : f_Mod_endSum R = some R := by
  rw [f_Mod_endSum, top_f h29 hp, Option.bind_some, isS_0 h, Option.bind_some, if_pos rfl, b_Mod_endSum_35]
theorem eS_1 {T : Nat → Int32} {N k o P c q : Nat} {R : IM} {x : Int32} (h : RQ T N k o (P + 1) c q R) (e : R A_pile P = x) (hx : bS x) (hc : c < 1000) (hP : P + 1 < 1000) : ∃ R', f_Mod_endSum R = some R' ∧ RQ T N k o P (c + 1) q R' ∧ RZ P c q [(x, 0)] 0 R R' := by
  obtain ⟨R', a, b⟩ := popE h e (rfS hx) hc hP
  have h29 : R MO 29 = nI (P + 1) := h.2.2.2.1
  have tp : f_Mod_topOf R = some x := by rw [top_f h29 (by omega), tpR, if_neg (by omega), Nat.add_sub_cancel, e]
  have d3 : (up R MO 29 (nI P)) A_pile P = x := by rw [fu (by decide)]; exact e
  refine ⟨R', ?_, b⟩
  rw [f_Mod_endSum, tp, Option.bind_some, isS_1 hx, Option.bind_some, if_neg one0, h29, ps1, lt, up_self, chk_i (show inb (nI P) 1000 from nki (by omega) (by decide)), nkc (by omega), d3, a, Option.bind_some, b_Mod_endSum_35]
/-- the end of parts, behind the end of a sum -/
theorem eP_0 {R R1 : IM} {p : Nat} (e : f_Mod_endSum R = some R1) (h29 : R1 MO 29 = nI p) (hp : p ≤ 1000) (h : ¬ bC (tpR R1 p)) : f_Mod_endParts R = some R1 := by
  rw [f_Mod_endParts, e, Option.bind_some, top_f h29 hp, Option.bind_some, isC_0 h, Option.bind_some, if_pos rfl, b_Mod_endParts_39]
theorem eP_1 {T : Nat → Int32} {N k o P c q : Nat} {R R1 : IM} {x : Int32} (g : f_Mod_endSum R = some R1) (h : RQ T N k o (P + 1) c q R1) (e : R1 A_pile P = x) (hx : bC x) (hc : c < 1000) (hP : P + 1 < 1000) : ∃ R', f_Mod_endParts R = some R' ∧ RQ T N k o P (c + 1) q R' ∧ RZ P c q [(x, 0)] 0 R1 R' := by
  obtain ⟨R', a, b⟩ := popE h e (rfC hx) hc hP
  have h29 : R1 MO 29 = nI (P + 1) := h.2.2.2.1
  have tp : f_Mod_topOf R1 = some x := by rw [top_f h29 (by omega), tpR, if_neg (by omega), Nat.add_sub_cancel, e]
  have d3 : (up R1 MO 29 (nI P)) A_pile P = x := by rw [fu (by decide)]; exact e
  refine ⟨R', ?_, b⟩
  rw [f_Mod_endParts, g, Option.bind_some, tp, Option.bind_some, isC_1 hx, Option.bind_some, if_neg one0, h29, ps1, lt, up_self, chk_i (show inb (nI P) 1000 from nki (by omega) (by decide)), nkc (by omega), d3, a, Option.bind_some, b_Mod_endParts_39]
/-- the loop over operands and operators -/
theorem lx1 {n f : Nat} {J : JM} {R R' : IM} (h14 : R MO 14 = -1) (e : f_Mod_operand n J R = some (1, R')) : l_Mod_expression_12 n J (f + 1) 1 R = l_Mod_expression_12 n J f 1 R' := by
  rw [l_Mod_expression_12, if_neg (show ¬ (1 : Int32) ≤ 0 by decide), h14, if_neg ng1, if_pos rfl, e, Option.bind_some, if_neg one0]
theorem lx2 {n f : Nat} {J : JM} {R R' : IM} (h14 : R MO 14 = -1) (e : f_Mod_operand n J R = some (0, R')) : l_Mod_expression_12 n J (f + 1) 1 R = l_Mod_expression_12 n J f 2 R' := by
  rw [l_Mod_expression_12, if_neg (show ¬ (1 : Int32) ≤ 0 by decide), h14, if_neg ng1, if_pos rfl, e, Option.bind_some, if_pos rfl]
theorem lx3 {n f : Nat} {J : JM} {R R' : IM} {v : Int32} (h14 : R MO 14 = -1) (e : f_Mod_operator n J R = some (v, R')) : l_Mod_expression_12 n J (f + 1) 2 R = l_Mod_expression_12 n J f v R' := by
  rw [l_Mod_expression_12, if_neg (show ¬ (2 : Int32) ≤ 0 by decide), h14, if_neg ng1, if_neg (show ¬ (2 : Int32) = 1 by decide), e, Option.bind_some]
theorem lx0 {n f : Nat} {J : JM} {R : IM} : l_Mod_expression_12 n J (f + 1) 0 R = some R := by
  rw [l_Mod_expression_12, if_pos (show (0 : Int32) ≤ 0 by decide), b_Mod_expression_52]
theorem lxF {n f : Nat} {J : JM} {R : IM} {x : Int32} (h : 0 ≤ R MO 14) : l_Mod_expression_12 n J (f + 1) x R = some R := by
  by_cases z : x ≤ 0
  · rw [l_Mod_expression_12, if_pos z, b_Mod_expression_52]
  · rw [l_Mod_expression_12, if_neg z, if_pos h, b_Mod_expression_52]
/-- a test of the reference's token, against the class's -/
theorem rTest {T : Nat → Int32} {N k : Nat} {R : IM} {P : Int32 → Prop} {Q : Nat → Prop} (vt : VT T N) (rb : RB T N k R) (h1 : ∀ t ∈ VL, t ≠ 102 → (P (nI (m2r t)) ↔ Q t)) (h2 : ¬ P 201 ∧ ¬ P 69 ∧ ¬ Q 102) : P (R MO 10) ↔ Q (tC T N k) := by
  by_cases z : tC T N k = 102
  · rw [z]
    rcases rb.2.1.2 z with e | e <;> rw [e]
    · exact ⟨fun y => absurd y h2.1, fun y => absurd y h2.2.2⟩
    · exact ⟨fun y => absurd y h2.2.1, fun y => absurd y h2.2.2⟩
  · rw [rb.2.1.1 z]
    exact h1 _ (tC_V vt) z
theorem sg4 : ∀ s ∈ sgL, ∀ t ∈ VL, t ≠ 102 → (nI (m2r t) = 400 + nI s ↔ t = 128 + s) := by decide +kernel
theorem sg5 : ∀ s ∈ sgL, ¬ (201 : Int32) = 400 + nI s ∧ ¬ (69 : Int32) = 400 + nI s ∧ ¬ 102 = 128 + s := by decide +kernel
theorem is_i {T : Nat → Int32} {N k s : Nat} {R : IM} (vt : VT T N) (rb : RB T N k R) (hs : s ∈ sgL) : R MO 10 = 400 + nI s ↔ tC T N k = 128 + s := rTest (P := fun x => x = 400 + nI s) (Q := fun t => t = 128 + s) vt rb (sg4 s hs) (sg5 s hs)
theorem is_1 {T : Nat → Int32} {N k s : Nat} {R : IM} (vt : VT T N) (rb : RB T N k R) (hs : s ∈ sgL) (h : tC T N k = 128 + s) : f_Mod_is (nI s) R = some 1 := by
  rw [f_Mod_is, if_pos ((is_i vt rb hs).mpr h)]
theorem is_0 {T : Nat → Int32} {N k s : Nat} {R : IM} (vt : VT T N) (rb : RB T N k R) (hs : s ∈ sgL) (h : ¬ tC T N k = 128 + s) : f_Mod_is (nI s) R = some 0 := by
  rw [f_Mod_is, if_neg (fun y => h ((is_i vt rb hs).mp y))]
/-- bits of names -/
theorem or_an {x y : Int32} (h : (x ||| y) &&& 1 = 0) : x &&& 1 = 0 := by
  have e : x &&& (x ||| y) = x := by
    apply Int32.toBitVec_inj.1
    rw [Int32.toBitVec_and, Int32.toBitVec_or]
    ext i hi
    rw [BitVec.getElem_and, BitVec.getElem_or]
    generalize x.toBitVec[i] = a
    generalize y.toBitVec[i] = b
    cases a <;> cases b <;> rfl
  rw [← e, Int32.and_assoc, h, Int32.and_zero]
theorem or_ds {a b c : Int32} : (a ||| b) &&& c = (a &&& c) ||| (b &&& c) := by
  apply Int32.toBitVec_inj.1
  rw [Int32.toBitVec_and, Int32.toBitVec_or, Int32.toBitVec_or, Int32.toBitVec_and, Int32.toBitVec_and]
  ext i hi
  rw [BitVec.getElem_and, BitVec.getElem_or, BitVec.getElem_or, BitVec.getElem_and, BitVec.getElem_and]
  generalize a.toBitVec[i] = a
  generalize b.toBitVec[i] = b
  generalize c.toBitVec[i] = c
  cases a <;> cases b <;> cases c <;> rfl
theorem tb_l {x y : Int32} {k : Nat} (h : tbi x k) : tbi (x ||| y) k := by
  unfold tbi at h ⊢
  rw [Int32.shiftRight_or]
  exact fun e => h (or_an e)
theorem tb_r {x y : Int32} {k : Nat} (h : tbi y k) : tbi (x ||| y) k := by
  rw [Int32.or_comm]; exact tb_l h
def mB (m : Int32) : Prop := m &&& 131071 = m
theorem mB_o {a b : Int32} (h : mB a) (g : mB b) : mB (a ||| b) := by
  unfold mB at *
  rw [or_ds, h, g]
theorem mB_0 : mB 0 := by unfold mB; decide
theorem mB_b {m : Int32} (h : mB m) : 0 ≤ m.toInt ∧ m.toInt < 131072 := by
  obtain ⟨j, h1, h2⟩ : ∃ j : Nat, j < 131072 ∧ m = nI j := by
    refine ⟨m.toBitVec.toNat, ?_, ?_⟩
    · rw [← h, Int32.toBitVec_and, BitVec.toNat_and]
      exact Nat.lt_of_le_of_lt Nat.and_le_right (by decide)
    · apply Int32.toBitVec.inj
      show m.toBitVec = BitVec.ofNat 32 _
      rw [BitVec.ofNat_toNat, BitVec.setWidth_eq]
  rw [h2, nI_toInt (by omega)]
  omega
theorem RZ_nm {p c q : Nat} {ds : List CIt} {m w : Int32} {R R' : IM} (h : RZ p c q ds m R R') : RZ p c q ds (m ||| w) R (up R' A_named q (R' A_named q ||| w)) := by
  obtain ⟨h1, h2, h3, h4, h5⟩ := h
  refine ⟨BL_m (fun j d _ _ y => ?_) h1, fun j hj => ?_, by rw [up_self, h3, Int32.or_assoc], fun j hj => ?_, RFq_t h5 RFq_n⟩
  · unfold RPi2
    rw [fu (by decide), fu (by decide)]; exact y
  · rw [fu (by decide), fu (by decide)]; exact h2 j hj
  · rw [fu (by decide), fu (by decide)]; exact h4 j hj
theorem RZ_set {p c q : Nat} {ds es : List CIt} {x w w' m v : Int32} {R R' : IM} (hx : x = 302 ∨ x = 303) (hv : v = nI (c + ds.length) + w') (hc : c + ds.length < 1000) (h : RZ p c q (ds ++ (x, w) :: es) m R R') : RZ p c q (ds ++ (x, w') :: es) m R (up R' A_codeValue (c + ds.length) v) := by
  obtain ⟨h1, h2, h3, h4, h5⟩ := h
  refine ⟨BL_set h1 (fun j e z y => ?_) (fun y => ?_), fun j hj => ?_, by rw [fu (by decide)]; exact h3, fun j hj => ?_, RFq_t h5 (RFq_c (Or.inr rfl) hc)⟩
  · unfold RPi2 at y ⊢
    rw [fu (by decide), up_ne (Or.inr z)]; exact y
  · unfold RPi2 at y ⊢
    rw [fu (by decide), up_self]
    refine ⟨y.1, ?_⟩
    rcases hx with hx | hx <;> rw [hx, hv] <;> rfl
  · rw [fu (by decide), up_ne (Or.inr (by omega))]; exact h2 j hj
  · rw [fu (by decide), fu (by decide)]; exact h4 j hj
