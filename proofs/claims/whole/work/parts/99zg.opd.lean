/-! policy: an operand, read by the reference; a term that is no bracket -/
theorem i4 {T : Nat → Int32} {N k : Nat} {R : IM} (vt : VT T N) (rb : RB T N k R) (h : tC T N k ≠ 161 ∧ tC T N k ≠ 254 ∧ tC T N k ≠ 173 ∧ tC T N k ≠ 168) : f_Mod_is 33 R = some 0 ∧ f_Mod_is 126 R = some 0 ∧ f_Mod_is 45 R = some 0 ∧ f_Mod_is 40 R = some 0 := ⟨is_0 (s := 33) vt rb (by decide) h.1, is_0 (s := 126) vt rb (by decide) h.2.1, is_0 (s := 45) vt rb (by decide) h.2.2.1, is_0 (s := 40) vt rb (by decide) h.2.2.2⟩
theorem opdU {T : Nat → Int32} {N n k t : Nat} {J : JM} {R : IM} {u : Int32} (vt : VT T N) (rb : RB T N k R) (ht : tC T N k = t) (hu : (t = 161 ∧ u = 33) ∨ (t = 254 ∧ u = 126) ∨ (t = 173 ∧ u = 301)) : f_Mod_operand n J R = Option.bind (f_Mod_push u 0 1 R) fun v52 => Option.bind (f_Mod_step n J v52) fun v54 => some (1, v54) := by
  rcases hu with ⟨e, rfl⟩ | ⟨e, rfl⟩ | ⟨e, rfl⟩ <;> subst e
  · have i33 : f_Mod_is 33 R = some 1 := is_1 (s := 33) vt rb (by decide) ht
    have i45 : f_Mod_is 45 R = some 0 := is_0 (s := 45) vt rb (by decide) (by rw [ht]; decide)
    have tk : R MO 10 - 400 = 33 := by rw [rb.2.1.1 (by rw [ht]; decide), ht]; decide
    rw [f_Mod_operand, i33, Option.bind_some, if_neg one0, b_Mod_operand_27, i45, Option.bind_some, if_pos rfl, tk]
  · have i33 : f_Mod_is 33 R = some 0 := is_0 (s := 33) vt rb (by decide) (by rw [ht]; decide)
    have i126 : f_Mod_is 126 R = some 1 := is_1 (s := 126) vt rb (by decide) ht
    have i45 : f_Mod_is 45 R = some 0 := is_0 (s := 45) vt rb (by decide) (by rw [ht]; decide)
    have tk : R MO 10 - 400 = 126 := by rw [rb.2.1.1 (by rw [ht]; decide), ht]; decide
    rw [f_Mod_operand, i33, Option.bind_some, if_pos rfl, i126, Option.bind_some, if_neg one0, b_Mod_operand_27, i45, Option.bind_some, if_pos rfl, tk]
  · have i33 : f_Mod_is 33 R = some 0 := is_0 (s := 33) vt rb (by decide) (by rw [ht]; decide)
    have i126 : f_Mod_is 126 R = some 0 := is_0 (s := 126) vt rb (by decide) (by rw [ht]; decide)
    have i45 : f_Mod_is 45 R = some 1 := is_1 (s := 45) vt rb (by decide) ht
    rw [f_Mod_operand, i33, Option.bind_some, if_pos rfl, i126, Option.bind_some, if_pos rfl, i45, Option.bind_some, if_neg one0, b_Mod_operand_27, i45, Option.bind_some, if_neg one0]
theorem opdB {T : Nat → Int32} {N n k : Nat} {J : JM} {R : IM} (vt : VT T N) (rb : RB T N k R) (ht : tC T N k = 168) : f_Mod_operand n J R = Option.bind (f_Mod_push 40 0 1 R) fun v36 => Option.bind (f_Mod_step n J v36) fun v38 => some (1, v38) := by
  have i33 : f_Mod_is 33 R = some 0 := is_0 (s := 33) vt rb (by decide) (by rw [ht]; decide)
  have i126 : f_Mod_is 126 R = some 0 := is_0 (s := 126) vt rb (by decide) (by rw [ht]; decide)
  have i45 : f_Mod_is 45 R = some 0 := is_0 (s := 45) vt rb (by decide) (by rw [ht]; decide)
  have i40 : f_Mod_is 40 R = some 1 := is_1 (s := 40) vt rb (by decide) ht
  rw [f_Mod_operand, i33, Option.bind_some, if_pos rfl, i126, Option.bind_some, if_pos rfl, i45, Option.bind_some, if_pos rfl, i40, Option.bind_some, if_neg one0]
theorem in60 : ∀ t ∈ VL, t ≠ 102 → ((60 ≤ nI (m2r t) ∧ nI (m2r t) ≤ 63) ↔ (37 ≤ t ∧ t ≤ 40)) := by decide +kernel
theorem in30 : ∀ t ∈ VL, t ≠ 102 → ((30 ≤ nI (m2r t) ∧ nI (m2r t) ≤ 44) ↔ (22 ≤ t ∧ t ≤ 36)) := by decide +kernel
theorem in60_i {T : Nat → Int32} {N k : Nat} {R : IM} (vt : VT T N) (rb : RB T N k R) : (60 ≤ R MO 10 ∧ R MO 10 ≤ 63) ↔ (37 ≤ tC T N k ∧ tC T N k ≤ 40) := rTest (P := fun x => 60 ≤ x ∧ x ≤ 63) (Q := fun t => 37 ≤ t ∧ t ≤ 40) vt rb in60 (by decide)
theorem in30_i {T : Nat → Int32} {N k : Nat} {R : IM} (vt : VT T N) (rb : RB T N k R) : (30 ≤ R MO 10 ∧ R MO 10 ≤ 44) ↔ (22 ≤ tC T N k ∧ tC T N k ≤ 36) := rTest (P := fun x => 30 ≤ x ∧ x ≤ 44) (Q := fun t => 22 ≤ t ∧ t ≤ 36) vt rb in30 (by decide)
theorem opdC {T : Nat → Int32} {N n k : Nat} {J : JM} {R : IM} (vt : VT T N) (rb : RB T N k R) (h1 : 37 ≤ tC T N k) (h2 : tC T N k ≤ 40) : f_Mod_operand n J R = Option.bind (f_Mod_step n J R) fun v28 => if 0 ≤ (v28 MO 14 : Int32) then (b_Mod_operand_128 n J (R MO 10) v28) else (Option.bind (f_Mod_is 40 v28) fun v31 => if v31 = 0 then (Option.bind (f_Mod_fail v28) fun v34 => b_Mod_operand_128 n J (R MO 10) v34) else (b_Mod_operand_128 n J (R MO 10) v28)) := by
  obtain ⟨a, b, c, d⟩ := i4 vt rb (by omega)
  rw [f_Mod_operand, a, Option.bind_some, if_pos rfl, b, Option.bind_some, if_pos rfl, c, Option.bind_some, if_pos rfl, d, Option.bind_some, if_pos rfl, inF, if_pos ((in60_i vt rb).mpr ⟨h1, h2⟩), Option.bind_some, if_neg one0]
theorem opdN {T : Nat → Int32} {N n k : Nat} {J : JM} {R : IM} (vt : VT T N) (rb : RB T N k R) (ht : tC T N k = 101) : f_Mod_operand n J R = Option.bind (f_Mod_emit 300 (tV T N k) R) fun v26 => b_Mod_operand_243 n J v26 := by
  obtain ⟨a, b, c, d⟩ := i4 vt rb (by omega)
  have e1 : ¬ (60 ≤ R MO 10 ∧ R MO 10 ≤ 63) := fun y => by have := (in60_i vt rb).mp y; omega
  have e2 : R MO 10 = 200 := by rw [rb.2.1.1 (by rw [ht]; decide), ht]; decide
  rw [f_Mod_operand, a, Option.bind_some, if_pos rfl, b, Option.bind_some, if_pos rfl, c, Option.bind_some, if_pos rfl, d, Option.bind_some, if_pos rfl, inF, if_neg e1, Option.bind_some, if_pos rfl, if_pos e2, rb.2.2.2.2 ht]
theorem opdA {T : Nat → Int32} {N n k : Nat} {J : JM} {R : IM} (vt : VT T N) (rb : RB T N k R) (h1 : 22 ≤ tC T N k) (h2 : tC T N k ≤ 36) : f_Mod_operand n J R = Option.bind (f_Mod_emit ((500 + (R MO 10)) - 30) 0 R) fun v22 => chk (inb (v22 MO 23) 602) <| lt (up v22 A_named (v22 MO 23 : Int32).toNatClampNeg ((v22 A_named (v22 MO 23 : Int32).toNatClampNeg) ||| ((1 : Int32) <<< (((v22 MO 10) - 30 : Int32) &&& 31)))) fun I25 => b_Mod_operand_243 n J I25 := by
  obtain ⟨a, b, c, d⟩ := i4 vt rb (by omega)
  have e1 : ¬ (60 ≤ R MO 10 ∧ R MO 10 ≤ 63) := fun y => by have := (in60_i vt rb).mp y; omega
  have e2 : ¬ R MO 10 = 200 := fun y => by have := (tkE (w := 101) vt rb.2.1 (by decide) (by decide)).mp y; omega
  rw [f_Mod_operand, a, Option.bind_some, if_pos rfl, b, Option.bind_some, if_pos rfl, c, Option.bind_some, if_pos rfl, d, Option.bind_some, if_pos rfl, inF, if_neg e1, Option.bind_some, if_pos rfl, if_neg e2, inF, if_pos ((in30_i vt rb).mpr ⟨h1, h2⟩), Option.bind_some, if_neg one0]
theorem opdF {T : Nat → Int32} {N n k : Nat} {J : JM} {R : IM} (vt : VT T N) (rb : RB T N k R) (h14 : R MO 14 = -1) (h : tC T N k ≠ 161 ∧ tC T N k ≠ 254 ∧ tC T N k ≠ 173 ∧ tC T N k ≠ 168) (h1 : ¬ (37 ≤ tC T N k ∧ tC T N k ≤ 40)) (h2 : ¬ (22 ≤ tC T N k ∧ tC T N k ≤ 36)) (h3 : tC T N k ≠ 101) : f_Mod_operand n J R = some (1, up R MO 14 (nI (tP T N k))) := by
  obtain ⟨a, b, c, d⟩ := i4 vt rb h
  have e1 : ¬ (60 ≤ R MO 10 ∧ R MO 10 ≤ 63) := fun y => h1 ((in60_i vt rb).mp y)
  have e3 : ¬ (30 ≤ R MO 10 ∧ R MO 10 ≤ 44) := fun y => h2 ((in30_i vt rb).mp y)
  have e2 : ¬ R MO 10 = 200 := fun y => h3 ((tkE (w := 101) vt rb.2.1 (by decide) (by decide)).mp y)
  rw [f_Mod_operand, a, Option.bind_some, if_pos rfl, b, Option.bind_some, if_pos rfl, c, Option.bind_some, if_pos rfl, d, Option.bind_some, if_pos rfl, inF, if_neg e1, Option.bind_some, if_pos rfl, if_neg e2, inF, if_neg e3, Option.bind_some, if_pos rfl, rFl rb h14, Option.bind_some]
/-- the state of the reference where a term begins -/
def HR (T : Nat → Int32) (N k o : Nat) (us : List Int32) (p c q : Nat) (R : IM) : Prop := RQ T N k o (p + us.length) c q R ∧ PU R p us ∧ us.length ≤ o ∧ ¬ bU (tpR R p) ∧ c + us.length ≤ k ∧ p + us.length ≤ k ∧ q < 602
theorem HR_0 {T : Nat → Int32} {N k o p c q : Nat} {R : IM} (h : RQ T N k o p c q R) (h1 : ¬ bU (tpR R p)) (h2 : c ≤ k) (h3 : p ≤ k) (h4 : q < 602) : HR T N k o [] p c q R := ⟨h, trivial, Nat.zero_le _, h1, h2, h3, h4⟩
/-- a step, and the unary signs that waited -/
theorem stWh {T : Nat → Int32} {N n k o p c q : Nat} {J : JM} {us : List Int32} {R : IM} (hJ : JOK J) (hn : 1000 ≤ n) (vt : VT T N) (h : RQ T N k o (p + us.length) c q R) (hu : PU R p us) (ho : us.length ≤ o) (nt : ¬ bU (tpR R p)) (hc : c + us.length < 1000) (hp : p + us.length < 1000) : ∃ R2 R3, f_Mod_step n J R = some R2 ∧ f_Mod_whole n R2 = some R3 ∧ RQ T N (k + 1) (o - us.length) p (c + us.length) q R3 ∧ RZ p c q (uI us) 0 R R3 := by
  obtain ⟨R2, a1, -, a2, a3⟩ := rStp (n := n) hJ hn vt h
  have e : o = o - us.length + us.length := by omega
  rw [e] at a2
  obtain ⟨R3, b1, b2, b3⟩ := whl (n := n) us (o - us.length) p c n R2 a2 (PU_c us (fun j hj => (a3.2.2.2.1 j hj).1) hu) (by rw [tp_RZ a3 (Nat.le_add_right _ _)]; exact nt) hc hp (by omega)
  exact ⟨R2, R3, a1, by rw [f_Mod_whole, b1], b2, RZ_l (RZ_p (Nat.le_add_right _ _) a3) b3⟩
/-- what reading a term comes to -/
def FaT (T : Nat → Int32) (N K n pt : Nat) (J : JM) (o k : Nat) (C : IM) (F : Option (Int32 × IM)) : Prop := ∃ (C' : IM) (k' : Nat), F = some (0, C') ∧ k ≤ k' ∧ RA T N K k' C' ∧ CFp pt C C' ∧ ∀ (J : JM), JOK J → ∀ (R : IM) (us : List Int32) (p c q : Nat), HR T N k o us p c q R → ∃ (s : Nat) (R' : IM), s + k ≤ k' + 2 ∧ (∀ f, l_Mod_expression_12 n J (f + s) 1 R = some R') ∧ R' MO 14 = nI (tP T N k') ∧ RFq q R R'
def OkT (T : Nat → Int32) (N K n pt : Nat) (J : JM) (o k L : Nat) (C : IM) (F : Option (Int32 × IM)) : Prop := ∃ (C' : IM) (k' : Nat) (ds : List CIt) (m : Int32), F = some (1, C') ∧ k + ds.length ≤ k' ∧ k < k' ∧ RA T N K k' C' ∧ CE pt L ds m C C' ∧ HT m (3 * (10 - o) + 1) 0 1 ds ∧ mB m ∧ ∀ (J : JM), JOK J → ∀ (R : IM) (us : List Int32) (p c q : Nat), HR T N k o us p c q R → ∃ (s : Nat) (R' : IM), s + k ≤ k' ∧ (∀ f, l_Mod_expression_12 n J (f + s) 1 R = l_Mod_expression_12 n J f 2 R') ∧ RQ T N k' (o - us.length) p (c + ds.length + us.length) q R' ∧ RZ p c q (ds ++ uI us) m R R'
def SpT (T : Nat → Int32) (N K n pt : Nat) (J : JM) (o : Nat) (F : RF) : Prop := ∀ (k L : Nat) (C : IM), RA T N K k C → C pt 0 = nI L → L ≤ k → OkT T N K n pt J o k L C (F (nI o) C) ∨ FaT T N K n pt J o k C (F (nI o) C)
theorem CE_l {pt L : Nat} {ds : List CIt} {m : Int32} {A B C : IM} (h : CE pt L [] 0 A B) (g : CE pt L ds m B C) : CE pt L ds m A C := by
  have := CE_t h (show CE pt (L + ([] : List CIt).length) ds m B C from g)
  rw [Int32.zero_or] at this
  exact this
theorem CE_s {pt L : Nat} {ds es : List CIt} {m : Int32} {A B C : IM} (h : CE pt L ds m A B) (g : CE pt (L + ds.length) es 0 B C) : CE pt L (ds ++ es) m A C := by
  have := CE_t h g
  rw [Int32.or_zero] at this
  exact this
theorem CF_1 {pt : Nat} {C C' : IM} (h : ∀ b, b ≠ 1 → C' b = C b) : CFp pt C C' := ⟨fun b z _ _ _ _ => h b z, fun j _ => by rw [h 7 (by decide)]⟩
theorem CF_0 {pt : Nat} {C : IM} : CFp pt C C := ⟨fun _ _ _ _ _ _ => rfl, fun _ _ => rfl⟩
theorem RA_K {T : Nat → Int32} {N K k : Nat} {C : IM} (h : RA T N K k C) : k ≤ K ∧ K ≤ 900 ∧ KP T N K := ⟨h.2.2.1, h.2.1.2.2.2, h.2.1.2.1, h.2.1.2.2.1, h.2.1.2.2.2⟩
theorem RA_ap {T : Nat → Int32} {N K k pt L : Nat} {x y z : Int32} {C : IM} (hp : 8 ≤ pt) (h : RA T N K k C) : RA T N K k (up (up (up C (pt + 1) L x) (pt + 2) L y) pt 0 z) := RA_u (RA_u (RA_u h (by omega)) (by omega)) (by omega)
/-- a fault where the term begins -/
theorem faT0 {T : Nat → Int32} {N K n pt o k : Nat} {J : JM} {C : IM} {F : Option (Int32 × IM)} (vt : VT T N) (ra : RA T N K k C) (e : F = some (0, C)) (h : ∀ (J : JM), JOK J → ∀ (R : IM) (us : List Int32) (p c q : Nat), HR T N k o us p c q R → f_Mod_operand n J R = some (1, up R MO 14 (nI (tP T N k)))) : FaT T N K n pt J o k C F := by
  refine ⟨C, k, e, Nat.le_refl _, ra, CF_0, fun J hJ R us p c q hr => ⟨2, up R MO 14 (nI (tP T N k)), by omega, fun f => ?_, up_self, RFq_u (by decide)⟩⟩
  rw [lx1 hr.1.2.1 (h J hJ R us p c q hr), lxF (by rw [up_self]; exact (tP_b vt).1)]
theorem c11 {T : Nat → Int32} {N K k t : Nat} {C : IM} (h : RA T N K k C) (e : tC T N k = t) : C 1 1 = nI t := by rw [h.2.2.2.2.1, e]
/-- the class's term is turned -/
theorem ctU {T : Nat → Int32} {N K k t pt : Nat} {E Tm : RF} {x : Int32} {C : IM} (ra : RA T N K k C) (ht : tC T N k = t) (hu : t = 161 ∨ t = 254 ∨ t = 173) : f_Prd_readTerm pt E Tm x C = Option.bind (f_Prd_readTurned pt E Tm (nI t) x C) fun v23 => chk ((v23.1 : Int32) = 0 ∨ (v23.1 : Int32) = 1) <| some (v23.1, v23.2) := by
  have e := c11 ra ht
  rcases hu with rfl | rfl | rfl
  · rw [f_Prd_readTerm, e, if_pos (by decide), b_Prd_readTerm_29]
  · rw [f_Prd_readTerm, e, if_neg (by decide), if_pos (by decide), b_Prd_readTerm_29]
  · rw [f_Prd_readTerm, e, if_neg (by decide), if_neg (by decide), if_pos (by decide), b_Prd_readTerm_29]
theorem lt10 {o : Nat} (h : o < 10) : nI o < 10 := (nlt (b := 10) (by omega) (by decide)).mpr h
theorem chk0 {C : IM} : (chk (((0 : Int32), C).1 = 0 ∨ ((0 : Int32), C).1 = 1) <| some (((0 : Int32), C).1, ((0 : Int32), C).2)) = some (0, C) := chk_i (Or.inl rfl)
theorem chk1 {C : IM} : (chk (((1 : Int32), C).1 = 0 ∨ ((1 : Int32), C).1 = 1) <| some (((1 : Int32), C).1, ((1 : Int32), C).2)) = some (1, C) := chk_i (Or.inr rfl)
theorem tmU {T : Nat → Int32} {N K n pt o k L t : Nat} {J : JM} {E Tm : RF} {C : IM} {u : Int32} (hJ : JOK J) (hn : 1000 ≤ n) (vt : VT T N) (hp : isPol pt) (ho : o ≤ 10) (ih : o < 10 → SpT T N K n pt J (o + 1) Tm) (ra : RA T N K k C) (hL : C pt 0 = nI L) (hLk : L ≤ k) (ht : tC T N k = t) (hu : (t = 161 ∧ u = 33) ∨ (t = 254 ∧ u = 126) ∨ (t = 173 ∧ u = 301)) : OkT T N K n pt J o k L C (f_Prd_readTerm pt E Tm (nI o) C) ∨ FaT T N K n pt J o k C (f_Prd_readTerm pt E Tm (nI o) C) := by
  have ec := ctU (pt := pt) (E := E) (Tm := Tm) (x := nI o) ra ht (by rcases hu with h | h | h <;> simp [h.1])
  obtain ⟨kK, K9, hK⟩ := RA_K ra
  have p8' := p8 hp
  by_cases h10 : o = 10
  · subst h10
    refine Or.inr (faT0 vt ra ?_ (fun J hJ R us p c q hr => ?_))
    · rw [ec, f_Prd_readTurned, if_neg (show ¬ nI 10 < 10 by decide), Option.bind_some, chk0]
    · rw [opdU vt hr.1.1 ht hu, pshF hr.1, Option.bind_some, stp0 (by rw [up_self]; exact (tP_b vt).1), Option.bind_some]
  have o10 : o < 10 := by omega
  have kl : k < K := kltK hK kK (by rcases hu with h | h | h <;> omega) (by rcases hu with h | h | h <;> omega)
  obtain ⟨C1, a1, a2, a3⟩ := adC vt ra kl
  have ce1 : CE pt L [] 0 C C1 := CE_0 p8'.1 a3 hL
  have bu : bU u := by rcases hu with ⟨-, rfl⟩ | ⟨-, rfl⟩ | ⟨-, rfl⟩ <;> decide
  have ref : ∀ (J : JM), JOK J → ∀ (R : IM) (us : List Int32) (p c q : Nat), HR T N k o us p c q R → ∃ R2, f_Mod_operand n J R = some (1, R2) ∧ HR T N (k + 1) (o + 1) (u :: us) p c q R2 ∧ RZ p c q [] 0 R R2 := fun J hJ R us p c q hr => by
    obtain ⟨h1, h2, h3, h4, h5, h6, h7⟩ := hr
    obtain ⟨R1, b1, b2, b3, b4, -⟩ := psh1 (x := u) (pl := 0) h1 o10 (by omega)
    obtain ⟨R2, d1, -, d2, d3⟩ := rStp (n := n) hJ hn vt b2
    refine ⟨R2, ?_, ⟨d2, ⟨?_, bu, PU_c us (fun j hj => ?_) h2⟩, ?_, ?_, ?_, ?_, h7⟩, RZ_l (RZ_p (Nat.le_add_right _ _) b3) (RZ_p (by omega) d3)⟩
    · rw [opdU vt h1.1 ht hu, b1, Option.bind_some, d1, Option.bind_some]
    · rw [(d3.2.2.2.1 (p + us.length) (by omega)).1]; exact b4
    · rw [(d3.2.2.2.1 j (by omega)).1, (b3.2.2.2.1 j hj).1]
    · rw [List.length_cons]; omega
    · rw [tp_RZ d3 (by omega), tp_RZ b3 (by omega)]; exact h4
    · rw [List.length_cons]; omega
    · rw [List.length_cons]; omega
  rcases ih o10 (k + 1) L C1 a2 ce1.1 (by omega) with ⟨C2, k', ds, m, b1, b2, b3, b4, b5, b6, b7, b8⟩ | ⟨C2, k', b1, b2, b3, b4, b5⟩
  · obtain ⟨kK', -, -⟩ := RA_K b4
    have hx : (if nI t = 173 then (104 : Int32) else nI t) = trS u := by rcases hu with ⟨rfl, rfl⟩ | ⟨rfl, rfl⟩ | ⟨rfl, rfl⟩ <;> decide
    have hx2 : clX (u, 0) (L + ds.length) = 0 := by rcases hu with ⟨-, rfl⟩ | ⟨-, rfl⟩ | ⟨-, rfl⟩ <;> rfl
    have ap := apC2 (pt := pt) (L := L + ds.length) (C := C2) (x1 := trS u) (x2 := 0) (by omega) b5.1
    refine Or.inl ⟨_, k', ds ++ [(u, 0)], m, ?_, ?_, by omega, RA_ap p8'.1 b4, CE_s (CE_l ce1 b5) (CE_ap p8'.1 rfl hx2), HT_a (HT_M (by omega) b6) (HT_u ?_ (by omega) (by omega)), b7, fun J hJ R us p c q hr => ?_⟩
    · rw [ec, f_Prd_readTurned, if_pos (lt10 o10), a1, Option.bind_some, nk1, b1, Option.bind_some, if_neg one0, hx, ap, Option.bind_some, Option.bind_some, chk1]
    · rw [List.length_append]; simp only [List.length_cons, List.length_nil]; omega
    · rcases bu with h | h | h <;> rw [h] <;> decide
    · obtain ⟨R2, c1, c2, c3⟩ := ref J hJ R us p c q hr
      obtain ⟨s, R', d1, d2, d3, d4⟩ := b8 J hJ R2 (u :: us) p c q c2
      refine ⟨s + 1, R', by omega, fun f => ?_, ?_, ?_⟩
      · rw [← Nat.add_assoc, lx1 hr.1.2.1 c1, d2]
      · rw [List.length_cons, Nat.add_sub_add_right] at d3
        rw [List.length_append, show c + (ds.length + [(u, (0 : Int32))].length) + us.length = c + ds.length + (us.length + 1) by simp only [List.length_cons, List.length_nil]; omega]
        exact d3
      · rw [List.append_assoc]
        exact RZ_l c3 d4
  · refine Or.inr ⟨C2, k', ?_, by omega, b3, CFp_t (CF_1 a3) b4, fun J hJ R us p c q hr => ?_⟩
    · rw [ec, f_Prd_readTurned, if_pos (lt10 o10), a1, Option.bind_some, nk1, b1, Option.bind_some, if_pos rfl, Option.bind_some, chk0]
    · obtain ⟨R2, c1, c2, c3⟩ := ref J hJ R us p c q hr
      obtain ⟨s, R', d1, d2, d3, d4⟩ := b5 J hJ R2 (u :: us) p c q c2
      exact ⟨s + 1, R', by omega, fun f => by rw [← Nat.add_assoc, lx1 hr.1.2.1 c1, d2], d3, RFq_t c3.2.2.2.2 d4⟩
/-- a term that is a number, or a name, or none -/
theorem ct69 {T : Nat → Int32} {N K k t pt : Nat} {E Tm : RF} {x : Int32} {C : IM} (vt : VT T N) (ra : RA T N K k C) (ht : tC T N k = t) (h : t ≠ 161 ∧ t ≠ 254 ∧ t ≠ 173 ∧ t ≠ 168) (h1 : ¬ (37 ≤ t ∧ t ≤ 40)) : f_Prd_readTerm pt E Tm x C = b_Prd_readTerm_69 pt E Tm (nI t) C := by
  have e := c11 ra ht
  have tb : t < 1000 := by rw [← ht]; exact tC_b vt
  have n : ∀ w, w < 1000 → t ≠ w → ¬ nI t = nI w := fun w hw hne y => hne (nij (by omega) (by omega) y)
  rw [f_Prd_readTerm, e, if_neg (show ¬ nI t = 161 from n 161 (by decide) h.1), if_neg (show ¬ nI t = 254 from n 254 (by decide) h.2.1), if_neg (show ¬ nI t = 173 from n 173 (by decide) h.2.2.1), if_neg (show ¬ nI t = 168 from n 168 (by decide) h.2.2.2)]
  by_cases z : t < 37
  · rw [if_pos (show nI t < 37 from (nlt (b := 37) (by omega) (by decide)).mpr z)]
  · rw [if_neg (show ¬ nI t < 37 from fun y => z ((nlt (b := 37) (by omega) (by decide)).mp y)), if_pos (show (40 : Int32) < nI t from (nlt (a := 40) (by decide) (by omega)).mpr (by omega))]
theorem tmN {T : Nat → Int32} {N K n pt o k L : Nat} {J : JM} {E Tm : RF} {C : IM} (hJ : JOK J) (hn : 1000 ≤ n) (vt : VT T N) (hp : isPol pt) (ra : RA T N K k C) (hL : C pt 0 = nI L) (hLk : L ≤ k) (ht : tC T N k = 101) : OkT T N K n pt J o k L C (f_Prd_readTerm pt E Tm (nI o) C) := by
  have ec := ct69 (pt := pt) (E := E) (Tm := Tm) (x := nI o) vt ra ht (by decide) (by decide)
  obtain ⟨kK, K9, hK⟩ := RA_K ra
  have p8' := p8 hp
  have kl : k < K := kltK hK kK (by omega) (by omega)
  have ap := apC2 (pt := pt) (L := L) (C := C) (x1 := 101) (x2 := tV T N k) (by omega) hL
  obtain ⟨C1, a1, a2, a3⟩ := adC vt (RA_ap (L := L) (x := 101) (y := tV T N k) (z := nI (L + 1)) p8'.1 ra) kl
  have ce : CE pt L [(300, tV T N k)] 0 C (up (up (up C (pt + 1) L 101) (pt + 2) L (tV T N k)) pt 0 (nI (L + 1))) := CE_ap (d := (300, tV T N k)) p8'.1 rfl rfl
  refine ⟨C1, k + 1, [(300, tV T N k)], 0, ?_, by simp, by omega, a2, CE_s ce (CE_0 p8'.1 a3 up_self), HT_n (by omega), mB_0, fun J hJ R us p c q hr => ?_⟩
  · rw [ec, b_Prd_readTerm_69, if_pos (show nI 101 = 101 from rfl), ra.2.2.2.2.2.2 ht, ap, Option.bind_some, b_Prd_readTerm_141, a1, Option.bind_some]
  · obtain ⟨h1, h2, h3, h4, h5, h6, h7⟩ := hr
    obtain ⟨R1, b1, b2, b3, -⟩ := rEm (d := (300, tV T N k)) (x := 300) (v := tV T N k) (by omega) h1 rfl rfl
    obtain ⟨R2, R3, d1, d2, d3, d4⟩ := stWh (n := n) (us := us) hJ hn vt b2 (PU_c us (fun j hj => (b3.2.2.2.1 j hj).1) h2) h3 (by rw [tp_RZ b3 (by omega)]; exact h4) (by omega) (by omega)
    refine ⟨1, R3, by omega, fun f => lx2 h1.2.1 ?_, d3, ?_⟩
    · rw [opdN vt h1.1 ht, b1, Option.bind_some, b_Mod_operand_243, d1, Option.bind_some, d2, Option.bind_some]
    · have := RZ_t (Nat.le_refl p) (RZ_p (by omega) b3) d4
      rw [Int32.or_zero] at this
      exact this
theorem nmG : ∀ j, j < 15 → trS (nI (500 + j)) = 103 ∧ ¬ nI (500 + j) = 300 ∧ (500 : Int32) ≤ nI (500 + j) ∧ nI (500 + j) - 500 = nI j ∧ ¬ (nI (500 + j) = 302 ∨ nI (500 + j) = 303) ∧ tbi ((1 : Int32) <<< (nI j &&& 31)) j ∧ mB ((1 : Int32) <<< (nI j &&& 31)) ∧ (500 + nI (30 + j)) - 30 = nI (500 + j) ∧ nI (30 + j) - 30 = nI j ∧ nI (22 + j) - 22 = nI j ∧ m2r (22 + j) = 30 + j := by
  unfold tbi mB
  decide +kernel
theorem tmA {T : Nat → Int32} {N K n pt o k L j : Nat} {J : JM} {E Tm : RF} {C : IM} (hJ : JOK J) (hn : 1000 ≤ n) (vt : VT T N) (hp : isPol pt) (ra : RA T N K k C) (hL : C pt 0 = nI L) (hLk : L ≤ k) (hj : j < 15) (ht : tC T N k = 22 + j) : OkT T N K n pt J o k L C (f_Prd_readTerm pt E Tm (nI o) C) := by
  have ec := ct69 (pt := pt) (E := E) (Tm := Tm) (x := nI o) vt ra ht (by omega) (by omega)
  obtain ⟨kK, K9, hK⟩ := RA_K ra
  have p8' := p8 hp
  obtain ⟨f1, f2, f3, f4, f5, f6, f7, f8, f9, f10, f11⟩ := nmG j hj
  have kl : k < K := kltK hK kK (by omega) (by omega)
  have ap := apC2 (pt := pt) (L := L) (C := C) (x1 := 103) (x2 := nI j) (by omega) hL
  obtain ⟨w, hw⟩ : ∃ w : Int32, w = (1 : Int32) <<< (nI j &&& 31) := ⟨_, rfl⟩
  rw [← hw] at f6 f7
  obtain ⟨D, hD⟩ : ∃ D : IM, D = up (up (up C (pt + 1) L 103) (pt + 2) L (nI j)) pt 0 (nI (L + 1)) := ⟨_, rfl⟩
  have cx : clX (nI (500 + j), 0) L = nI j := by unfold clX; rw [if_neg f2, if_pos f3, f4]
  have ce : CE pt L [(nI (500 + j), 0)] 0 C D := by rw [hD]; exact CE_ap (d := (nI (500 + j), 0)) p8'.1 f1 cx
  have ce2 := CE_nm (w := w) p8'.1 ce
  rw [Int32.zero_or] at ce2
  have raD : RA T N K k (up D 7 3 (D 7 3 ||| w)) := RA_u (by rw [hD]; exact RA_ap p8'.1 ra) (by decide)
  obtain ⟨C1, a1, a2, a3⟩ := adC vt raD kl
  refine ⟨C1, k + 1, [(nI (500 + j), 0)], w, ?_, by simp, by omega, a2, CE_s ce2 (CE_0 p8'.1 a3 ce2.1), HT_nm hj f6 (by omega), f7, fun J hJ R us p c q hr => ?_⟩
  · have g1 : ¬ nI (22 + j) = 101 := fun y => by have := nij (b := 101) (by omega) (by decide) y; omega
    have g2 : ¬ nI (22 + j) < 22 := fun y => by have := (nlt (b := 22) (by omega) (by decide)).mp y; omega
    have g3 : ¬ 37 ≤ nI (22 + j) := fun y => by have := (nle (a := 37) (by decide) (by omega)).mp y; omega
    rw [ec, b_Prd_readTerm_69, if_neg g1, if_neg g2, if_neg g3, f10, ap, Option.bind_some, ← hD, ← hw, lt, b_Prd_readTerm_141, a1, Option.bind_some]
  · obtain ⟨h1, h2, h3, h4, h5, h6, h7⟩ := hr
    obtain ⟨R1, b1, b2, b3, b4⟩ := rEm (d := (nI (500 + j), 0)) (x := nI (500 + j)) (v := 0) (by omega) h1 rfl (by unfold rfV; rw [if_neg f5])
    have r10 : R MO 10 = nI (30 + j) := by rw [h1.1.2.1.1 (by omega), ht, f11]
    have q1 : RQ T N k o (p + us.length) (c + 1) q (up R1 A_named q (R1 A_named q ||| w)) := RQ_a (by decide) (by decide) b2
    have re1 := RZ_nm (w := w) b3
    rw [Int32.zero_or] at re1
    obtain ⟨R2, R3, d1, d2, d3, d4⟩ := stWh (n := n) (us := us) hJ hn vt q1 (PU_c us (fun j hj => (re1.2.2.2.1 j hj).1) h2) h3 (by rw [tp_RZ re1 (by omega)]; exact h4) (by omega) (by omega)
    refine ⟨1, R3, by omega, fun f => lx2 h1.2.1 ?_, d3, ?_⟩
    · rw [opdA vt h1.1 (by omega) (by omega), r10, f8, b1, Option.bind_some, b2.2.2.2.2.2, chk_i (show inb (nI q) 602 from nki h7 (by decide)), nkc (by omega), b4 10 (by decide), r10, f9, ← hw, lt, b_Mod_operand_243, d1, Option.bind_some, d2, Option.bind_some]
    · have := RZ_t (Nat.le_refl p) (RZ_p (by omega) re1) d4
      rw [Int32.or_zero] at this
      exact this
theorem tmF {T : Nat → Int32} {N K n pt o k t : Nat} {J : JM} {E Tm : RF} {C : IM} (vt : VT T N) (ra : RA T N K k C) (ht : tC T N k = t) (h : t ≠ 161 ∧ t ≠ 254 ∧ t ≠ 173 ∧ t ≠ 168) (h1 : ¬ (37 ≤ t ∧ t ≤ 40)) (h2 : ¬ (22 ≤ t ∧ t ≤ 36)) (h3 : t ≠ 101) : FaT T N K n pt J o k C (f_Prd_readTerm pt E Tm (nI o) C) := by
  have ec := ct69 (pt := pt) (E := E) (Tm := Tm) (x := nI o) vt ra ht h h1
  have tb : t < 1000 := by rw [← ht]; exact tC_b vt
  refine faT0 vt ra ?_ (fun J hJ R us p c q hr => opdF vt hr.1.1 hr.1.2.1 (by rw [ht]; exact h) (by rw [ht]; exact h1) (by rw [ht]; exact h2) (by rw [ht]; exact h3))
  rw [ec, b_Prd_readTerm_69, if_neg (show ¬ nI t = 101 from fun y => h3 (nij (b := 101) (by omega) (by decide) y))]
  by_cases z : t < 22
  · rw [if_pos (show nI t < 22 from (nlt (b := 22) (by omega) (by decide)).mpr z), b_Prd_readTerm_139]
  · rw [if_neg (show ¬ nI t < 22 from fun y => z ((nlt (b := 22) (by omega) (by decide)).mp y)), if_pos (show (37 : Int32) ≤ nI t from (nle (a := 37) (by decide) (by omega)).mpr (by omega)), b_Prd_readTerm_139]
