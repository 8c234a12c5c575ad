/-! policy: all rules; the text as a whole -/
theorem pl21 {n pt f : Nat} {J : JM} {q : Nat} {C : IM} (hq : q ≤ 22) : l_Prd_read_21 n pt J (f + 1) (nI q) C = if (C 1 1 : Int32) = (100 : Int32) then (some (-1, C)) else (Option.bind (f_Prd_readRule n pt C) fun v8 => if (v8.1 : Int32) = 0 then (some (v8.2 1 2, v8.2)) else ((l_Prd_read_21 n pt J f) (nI (q + 1)) v8.2)) := by
  have n22 : ¬ (22 : Int32) < nI q := fun y => by have := (nlt (a := 22) (by decide) (by omega)).mp y; omega
  rw [l_Prd_read_21, if_neg n22]
  by_cases z : C 1 1 = 100
  · rw [if_pos z, if_pos z, b_Prd_read_60, if_pos z, b_Prd_read_83]
  · rw [if_neg z, if_neg z, nk1]
theorem plL {T : Nat → Int32} {N K n pt : Nat} {J : JM} (hJ : JOK J) (hn : 1000 ≤ n) (vt : VT T N) (hp : isPol pt) : ∀ (d f k : Nat) (A : AP) (C : IM), K - k ≤ d → d < f → BA A k → BC T N K pt A k C → (∃ (A' : AP) (k' : Nat) (C' : IM), l_Prd_read_21 n pt J f (nI (aNr A)) C = some (-1, C') ∧ tC T N k' = 100 ∧ k' ≤ K ∧ BA A' k' ∧ BC T N K pt A' k' C' ∧ CFr pt C C' ∧ ∀ (J : JM), JOK J → ∀ R : IM, BR T N A k R → ∃ (s : Nat) (R' : IM), s + k ≤ k' ∧ (∀ f, l_Mod_readPolicy_50 n J (f + s) R = l_Mod_readPolicy_50 n J f R') ∧ BR T N A' k' R' ∧ RFw R R') ∨ (∃ (C' : IM) (k' : Nat), l_Prd_read_21 n pt J f (nI (aNr A)) C = some (nI (tP T N k'), C') ∧ k ≤ k' ∧ k' ≤ K ∧ RA T N K k' C' ∧ CFr pt C C' ∧ ∀ (J : JM), JOK J → ∀ R : IM, BR T N A k R → ∃ (s : Nat) (R' : IM), s + k ≤ k' + 1 ∧ (∀ f, l_Mod_readPolicy_50 n J (f + s) R = l_Mod_readPolicy_50 n J f R') ∧ R' MO 14 = nI (tP T N k') ∧ RFw R R') := by
  have iE : SpE T N K n pt J 0 (recP n pt 11).1 := (spR hJ hn vt hp 10 0 rfl).1
  intro d
  induction d with
  | zero =>
    intro f k A C hd hf ba bc
    obtain ⟨g, rfl⟩ : ∃ g, f = g + 1 := ⟨f - 1, by omega⟩
    obtain ⟨kK, K9, hK⟩ := RA_K bc.1
    have cl := cnt_le (f := aRo A) 22
    have q22 : aNr A ≤ 22 := by have := ba.2.2.2.2.2.2.1; omega
    by_cases z : tC T N k = 100
    · refine Or.inl ⟨A, k, C, ?_, z, kK, ba, bc, CFr_0, fun J hJ R br => ⟨0, R, by omega, fun f => rfl, br, RFw_0⟩⟩
      rw [pl21 q22, if_pos (show C 1 1 = 100 from c11 bc.1 z)]
    have nz : ¬ C 1 1 = 100 := fun y => z (by rw [bc.1.2.2.2.2.1] at y; exact nij (b := 100) (by have := tC_b (k := k) vt; omega) (by decide) y)
    rcases rlA hn vt hp iE ba bc z with ⟨A', k', C', b1, b2, b3, b4, b5, b6, b7⟩ | ⟨C', k', b1, b2, b3, b4, b5⟩
    · have := (RA_K b4.1).1
      omega
    · refine Or.inr ⟨C', k', ?_, b2, (RA_K b3).1, b3, b4, fun J hJ R br => ?_⟩
      · rw [pl21 q22, if_neg nz, b1, Option.bind_some, if_pos rfl, show ((0 : Int32), C').2 1 2 = nI (tP T N k') from b3.2.2.2.2.2.1]
      · obtain ⟨R', e1, e2, e3⟩ := b5 J hJ R br
        exact ⟨1, R', by omega, e1, e2, e3⟩
  | succ d ih =>
    intro f k A C hd hf ba bc
    obtain ⟨g, rfl⟩ : ∃ g, f = g + 1 := ⟨f - 1, by omega⟩
    obtain ⟨kK, K9, hK⟩ := RA_K bc.1
    have cl := cnt_le (f := aRo A) 22
    have q22 : aNr A ≤ 22 := by have := ba.2.2.2.2.2.2.1; omega
    by_cases z : tC T N k = 100
    · refine Or.inl ⟨A, k, C, ?_, z, kK, ba, bc, CFr_0, fun J hJ R br => ⟨0, R, by omega, fun f => rfl, br, RFw_0⟩⟩
      rw [pl21 q22, if_pos (show C 1 1 = 100 from c11 bc.1 z)]
    have nz : ¬ C 1 1 = 100 := fun y => z (by rw [bc.1.2.2.2.2.1] at y; exact nij (b := 100) (by have := tC_b (k := k) vt; omega) (by decide) y)
    rcases rlA hn vt hp iE ba bc z with ⟨A', k', C', b1, b2, b3, b4, b5, b6, b7⟩ | ⟨C', k', b1, b2, b3, b4, b5⟩
    · rcases ih g k' A' C' (by omega) (by omega) b3 b4 with ⟨A2, k2, C2, e1, e2, e3, e4, e5, e6, e7⟩ | ⟨C2, k2, e1, e2, e3, e4, e5, e6⟩
      · rw [b5] at e1
        refine Or.inl ⟨A2, k2, C2, ?_, e2, e3, e4, e5, CFr_t b6 e6, fun J hJ R br => ?_⟩
        · rw [pl21 q22, if_neg nz, b1, Option.bind_some, if_neg one0, e1]
        · obtain ⟨R', f1, f2, f3⟩ := b7 J hJ R br
          obtain ⟨s, R2, g1, g2, g3, g4⟩ := e7 J hJ R' f2
          exact ⟨s + 1, R2, by omega, fun f => by rw [← Nat.add_assoc, f1, g2], g3, RFw_t f3 g4⟩
      · rw [b5] at e1
        refine Or.inr ⟨C2, k2, ?_, by omega, e3, e4, CFr_t b6 e5, fun J hJ R br => ?_⟩
        · rw [pl21 q22, if_neg nz, b1, Option.bind_some, if_neg one0, e1]
        · obtain ⟨R', f1, f2, f3⟩ := b7 J hJ R br
          obtain ⟨s, R2, g1, g2, g3, g4⟩ := e6 J hJ R' f2
          exact ⟨s + 1, R2, by omega, fun f => by rw [← Nat.add_assoc, f1, g2], g3, RFw_t f3 g4⟩
    · refine Or.inr ⟨C', k', ?_, b2, (RA_K b3).1, b3, b4, fun J hJ R br => ?_⟩
      · rw [pl21 q22, if_neg nz, b1, Option.bind_some, if_pos rfl, show ((0 : Int32), C').2 1 2 = nI (tP T N k') from b3.2.2.2.2.2.1]
      · obtain ⟨R', e1, e2, e3⟩ := b5 J hJ R br
        exact ⟨1, R', by omega, e1, e2, e3⟩
theorem l27 {n : Nat} {J : JM} : ∀ (d f j : Nat) (R : IM), j + d = 22 → d < f → ∃ R', l_Mod_readPolicy_27 n J f (nI j) R = (Option.bind (f_Mod_advance n J R') fun v7 => l_Mod_readPolicy_50 n J n v7) ∧ (∀ i, j ≤ i → i < 22 → R' A_ruleOf i = -1) ∧ (∀ i, i < j ∨ 22 ≤ i → R' A_ruleOf i = R A_ruleOf i) ∧ ∀ b, b ≠ 114 → R' b = R b
  | 0, f, j, R, h, hf => by
    obtain ⟨g, rfl⟩ : ∃ g, f = g + 1 := ⟨f - 1, by omega⟩
    obtain rfl : j = 22 := by omega
    refine ⟨R, ?_, fun i h1 h2 => absurd h1 (by omega), fun _ _ => rfl, fun _ _ => rfl⟩
    rw [l_Mod_readPolicy_27, if_pos (by decide)]
  | d + 1, f, j, R, h, hf => by
    obtain ⟨g, rfl⟩ : ∃ g, f = g + 1 := ⟨f - 1, by omega⟩
    have n22 : ¬ (22 : Int32) ≤ nI j := fun y => by have := (nle (a := 22) (by decide) (by omega)).mp y; omega
    obtain ⟨R', a1, a2, a3, a4⟩ := l27 (n := n) (J := J) d g (j + 1) (up R A_ruleOf j (-1)) (by omega) (by omega)
    refine ⟨R', ?_, fun i h1 h2 => ?_, fun i h1 => ?_, fun b hb => by rw [a4 b hb, fu hb]⟩
    · rw [l_Mod_readPolicy_27, if_neg n22, chk_i (show inb (nI j) 44 from nki (by omega) (by decide)), nkc (by omega), lt, nk1, a1]
    · by_cases e : i = j
      · subst e; rw [a3 i (Or.inl (by omega)), up_self]
      · exact a2 i (by omega) h2
    · rw [a3 i (by omega), up_ne (Or.inr (by omega))]
theorem rp0 {T : Nat → Int32} {N n : Nat} {J : JM} {R : IM} (hJ : JOK J) (hn : 1000 ≤ n) (vt : VT T N) (tx : TXr T N R) : ∃ R1, f_Mod_readPolicy n J R = l_Mod_readPolicy_50 n J n R1 ∧ BR T N aZ 0 R1 ∧ RFw R R1 := by
  obtain ⟨R0, hR0⟩ : ∃ R0, R0 = up (up (up (up (up R MO 14 (-1)) MO 13 0) MO 15 0) MO 18 0) MO 23 0 := ⟨_, rfl⟩
  have f0 : RFw R R0 := by
    rw [hR0]
    exact RFw_t (RFw_u (by decide)) (RFw_t (RFw_u (by decide)) (RFw_t (RFw_u (by decide)) (RFw_t (RFw_u (by decide)) (RFw_u (by decide)))))
  have v14 : R0 MO 14 = -1 := by rw [hR0, up_ne (Or.inr (by decide)), up_ne (Or.inr (by decide)), up_ne (Or.inr (by decide)), up_ne (Or.inr (by decide)), up_self]
  have v13 : R0 MO 13 = 0 := by rw [hR0, up_ne (Or.inr (by decide)), up_ne (Or.inr (by decide)), up_ne (Or.inr (by decide)), up_self]
  have v15 : R0 MO 15 = 0 := by rw [hR0, up_ne (Or.inr (by decide)), up_ne (Or.inr (by decide)), up_self]
  have v18 : R0 MO 18 = 0 := by rw [hR0, up_ne (Or.inr (by decide)), up_self]
  have v23 : R0 MO 23 = 0 := by rw [hR0, up_self]
  obtain ⟨R1, a1, a2, a3, a4⟩ := l27 (n := n) (J := J) 22 n 0 R0 rfl (by omega)
  have m1 : R1 MO = R0 MO := a4 _ (by decide)
  have tx1 : TXr T N R1 := by
    refine ⟨by rw [m1, f0.2.2.2.2.2 2 (by decide)]; exact tx.1, fun k hk => ?_⟩
    rw [a4 _ (by decide), f0.1 _ (by decide) (by decide)]; exact tx.2 k hk
  obtain ⟨R2, b1, b2, b3, b4⟩ := adv0 (k := 0) (e := N) hJ hn vt (Nat.le_refl _) rfl tx1 (by rw [m1, v13, Nat.sub_self]; rfl)
  have b3' : ∀ b, b ≠ 102 → R2 b = R1 b := b3
  refine ⟨R2, ?_, ⟨⟨b2, ?_, ?_, ?_, ?_⟩, ⟨fun s hs => absurd hs (Nat.not_lt_zero _), fun i hi => absurd hi (Nat.not_lt_zero _)⟩, fun j hj => ?_, fun q hq => absurd hq (Nat.not_lt_zero _)⟩, RFw_t f0 ?_⟩
  · rw [f_Mod_readPolicy, lt, lt, lt, lt, lt, ← hR0, show l_Mod_readPolicy_27 n J n 0 R0 = _ from a1, b1, Option.bind_some]
  · rw [b4 14 (by decide) (by decide) (by decide) (by decide), m1]; exact v14
  · rw [b4 15 (by decide) (by decide) (by decide) (by decide), m1]; exact v15
  · rw [b4 18 (by decide) (by decide) (by decide) (by decide), m1]; exact v18
  · rw [b4 23 (by decide) (by decide) (by decide) (by decide), m1]; exact v23
  · rw [b3' _ (by decide), a2 j (Nat.zero_le _) hj]
    rfl
  · refine RFw_k (RFk_t ⟨fun b _ z => a4 b z, fun j hj => a3 j (Or.inr hj), fun j _ => by rw [m1]⟩ (RFk_a b3 b4))
theorem BA_Z : BA aZ 0 := by
  refine ⟨⟨rfl, fun s hs => absurd hs (Nat.not_lt_zero _), fun s hs => absurd hs (Nat.not_lt_zero _)⟩, rfl, fun q hq => absurd hq (Nat.not_lt_zero _), fun j _ => Or.inl rfl, fun q hq => absurd hq (Nat.not_lt_zero _), fun q hq => absurd hq (Nat.not_lt_zero _), Nat.zero_le _, Nat.le_refl _, Nat.le_refl _⟩
theorem BA_W {A : AP} {k : Nat} (h : BA A k) (hk : k ≤ 900) : WF A := by
  obtain ⟨b1, b2, b3, b4, b5, b6, b7, b8, b9⟩ := h
  have cl := cnt_le (f := aRo A) 22
  have ns0 : aNr A = 0 → aNs A = 0 := fun e => by unfold aNs; rw [e]; exact b2
  have ns3 : aNs A < 300 := by
    rcases Nat.eq_zero_or_pos (aNr A) with e | e
    · rw [ns0 e]; decide
    · omega
  exact ⟨by omega, b2, b3, ns3, b1.1, b1.2.1, by unfold aNc; omega, b4, fun q hq => mB_b (b5 q hq), b1.2.2, fun q hq s h1 h2 => b6 q hq s h1 h2⟩
theorem BR_P {T : Nat → Int32} {N k : Nat} {A : AP} {R : IM} (h : BR T N A k R) : PR A 0 0 0 0 R ∧ PH A R := by
  obtain ⟨⟨rb, h14, h15, h18, h23⟩, ar, ho, ru⟩ := h
  refine ⟨⟨fun j hj => ⟨fun e => ?_, fun q hq e => ?_⟩, fun q hq => ?_, fun s hs => ?_, fun i hi => ⟨?_, fun _ => ?_, fun _ => ?_⟩⟩, fun s hs => (ar.1 s hs).2.1, h15, h18, h23⟩
  · rw [Nat.zero_add, ho j hj]; exact e
  · rw [Nat.zero_add, Nat.zero_add, ho j hj]; exact e
  · simp only [Nat.zero_add]; exact ru q hq
  · simp only [Nat.zero_add]
    obtain ⟨y1, y2, y3, y4⟩ := ar.1 s hs
    exact ⟨y1, y3, y4⟩
  · rw [Nat.zero_add]; exact (ar.2 i hi).1
  · rw [Nat.zero_add, (ar.2 i hi).2]
    exact (Int32.add_zero _).symm
  · rw [Nat.zero_add]; exact (ar.2 i hi).2
/-- the fate of a text that is read as a policy -/
def RPs (T : Nat → Int32) (N n : Nat) (A : AP) : Prop := ∀ (J : JM), JOK J → ∀ R : IM, TXr T N R → ∃ R', f_Mod_readPolicy n J R = some R' ∧ R' MO 14 = -1 ∧ PR A 0 0 0 0 R' ∧ PH A R' ∧ RFw R R'
def RPf (T : Nat → Int32) (N n p : Nat) : Prop := ∀ (J : JM), JOK J → ∀ R : IM, TXr T N R → ∃ R', f_Mod_readPolicy n J R = some R' ∧ R' MO 14 = nI p ∧ RFw R R'
theorem rdP {T : Nat → Int32} {N n pt : Nat} {J : JM} {C : IM} (hJ : JOK J) (hn : 1000 ≤ n) (vt : VT T N) (hp : isPol pt) (tx : TXc T N C) : (∃ (A : AP) (C' : IM), f_Prd_read n pt J C = some (-1, C') ∧ WF A ∧ PC A pt C' ∧ TXc T N C' ∧ (∀ b, b ≠ 1 → b ≠ 3 → b ≠ 4 → b ≠ 5 → b ≠ 7 → ¬ (pt ≤ b ∧ b ≤ pt + 6) → C' b = C b) ∧ RPs T N n A) ∨ (∃ (p : Nat) (C' : IM), p ≤ 900 ∧ f_Prd_read n pt J C = some (nI p, C') ∧ TXc T N C' ∧ (∀ b, b ≠ 1 → b ≠ 3 → b ≠ 4 → b ≠ 5 → b ≠ 7 → ¬ (pt ≤ b ∧ b ≤ pt + 6) → C' b = C b) ∧ RPf T N n p) := by
  have p8' := p8 hp
  obtain ⟨C0, hC0⟩ : ∃ C0, C0 = up (fil (up C pt 0 0) (pt + 5) 22 (-1)) 7 2 0 := ⟨_, rfl⟩
  have o0 : ∀ b, b ≠ 7 → b ≠ pt → b ≠ pt + 5 → C0 b = C b := fun b z1 z2 z3 => by rw [hC0, fu z1, fr_fil rfl z3, fu z2]
  have tx0 : TXc T N C0 := by
    unfold TXc
    rw [o0 1 (by decide) (by omega) (by omega), o0 2 (by decide) (by omega) (by omega)]; exact tx
  obtain ⟨K, C1, a1, a2, a3⟩ := stC (n := n) hJ hn vt tx0
  have ec : f_Prd_read n pt J C = l_Prd_read_21 n pt J n (nI (aNr aZ)) C1 := by
    rw [f_Prd_read, f_Pol_empty, lt, lt, Option.bind_some, lt, ← hC0, a1, Option.bind_some]
    rfl
  have c7 : C1 7 2 = 0 := by rw [a3 7 (by decide) (by decide) (by decide) (by decide), hC0, up_self]
  have cp : C1 pt 0 = 0 := by rw [a3 pt (by omega) (by omega) (by omega) (by omega), hC0, fu (by omega), fr_fil rfl (by omega), up_self]
  have c5 : ∀ j, j < 22 → C1 (pt + 5) j = -1 := fun j hj => by
    rw [a3 _ (by omega) (by omega) (by omega) (by omega), hC0, fu (by omega), fil_at, if_pos ⟨rfl, hj⟩]
  have bc : BC T N K pt aZ 0 C1 := by
    refine ⟨a2, cp, ⟨fun s hs => absurd hs (Nat.not_lt_zero _), fun s hs => absurd hs (Nat.not_lt_zero _)⟩, fun j hj => ⟨fun _ => c5 j hj, fun q hq => absurd hq (Nat.not_lt_zero _)⟩, fun j hj => ?_⟩
    rw [c7]
    have : ∀ j, j < 22 → (((0 : Int32) >>> (nI j &&& 31)) &&& 1) = 0 := by decide
    exact ⟨fun w => absurd (this j hj) w, fun w => absurd rfl w⟩
  obtain ⟨-, K9, -⟩ := RA_K a2
  have fr : ∀ C', CFr pt C1 C' → ∀ b, b ≠ 1 → b ≠ 3 → b ≠ 4 → b ≠ 5 → b ≠ 7 → ¬ (pt ≤ b ∧ b ≤ pt + 6) → C' b = C b := fun C' cf b z1 z2 z3 z4 z5 z6 => by
    rw [cf.1 b z1 z5 z6, a3 b z1 z2 z3 z4, o0 b z5 (by omega) (by omega)]
  rcases plL hJ hn vt hp K n 0 aZ C1 (by omega) (by omega) BA_Z bc with ⟨A, k', C', e1, e2, e3, e4, e5, e6, e7⟩ | ⟨C', k', e1, e2, e3, e4, e5, e6⟩
  · refine Or.inl ⟨A, C', by rw [ec, e1], BA_W e4 (by omega), ⟨e5.2.2.2.1, e5.2.2.1.1, e5.2.2.1.2⟩, e5.1.1, fr C' e6, fun J hJ R tr => ?_⟩
    obtain ⟨R1, f1, f2, f3⟩ := rp0 (n := n) hJ hn vt tr
    obtain ⟨s, R', g1, g2, g3, g4⟩ := e7 J hJ R1 f2
    obtain ⟨h1, h2⟩ := BR_P g3
    have e8 := g2 (n - s)
    rw [show n - s + s = n by omega] at e8
    obtain ⟨g, hg⟩ : ∃ g, n - s = g + 1 := ⟨n - s - 1, by omega⟩
    refine ⟨R', ?_, g3.1.2.1, h1, h2, RFw_t f3 g4⟩
    rw [f1, e8, hg, l_Mod_readPolicy_50, g3.1.2.1, if_neg ng1, f_Mod_tokenIsEnd, if_pos ((te_f vt g3.1.1).mpr e2), Option.bind_some, if_neg one0, b_Mod_readPolicy_186]
  · refine Or.inr ⟨tP T N k', C', by have := vt.1; unfold tP; omega, by rw [ec, e1], e4.1, fr C' e5, fun J hJ R tr => ?_⟩
    obtain ⟨R1, f1, f2, f3⟩ := rp0 (n := n) hJ hn vt tr
    obtain ⟨s, R', g1, g2, g3, g4⟩ := e6 J hJ R1 f2
    have e8 := g2 (n - s)
    rw [show n - s + s = n by omega] at e8
    obtain ⟨g, hg⟩ : ∃ g, n - s = g + 1 := ⟨n - s - 1, by omega⟩
    refine ⟨R', ?_, g3, RFw_t f3 g4⟩
    rw [f1, e8, hg, l_Mod_readPolicy_50, if_pos (by rw [g3]; exact (tP_b vt).1), b_Mod_readPolicy_186]
