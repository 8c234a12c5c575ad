/-! policy: a rule, read by both -/
theorem PCr_n {A B : AP} {ro : Nat → Int32} {ns pt tn k k' : Nat} {m x : Int32} {C C2 I' : IM} (ba : BA A k) (ae : AE (aSR A ro) B (aNs A)) (ia : IA B ns k' m tn) (hr : RO (aNr A) ro) (kx : KX (aNr A) (aRo A) ro) (h500 : aNr A < 500) (pc : PCr A pt C) (same : ∀ a, 3 ≤ a → a ≤ 6 → C2 (pt + a) = C (pt + a)) (hx : x = nI (aCf A (aNs A) + aNs A)) (c0 : C2 pt 0 = nI (aCf B ns + ns)) (hm : ∀ i, i < 22 → ro i = nI (aNr A) → I' (pt + 3) i = x ∧ I' (pt + 4) i = C2 pt 0 ∧ I' (pt + 5) i = m ∧ I' (pt + 6) i = nI tn) (ho : ∀ i, i < 22 → ro i ≠ nI (aNr A) → ∀ a, I' (pt + a) i = C2 (pt + a) i) : PCr (aRF B ns m) pt I' := by
  obtain ⟨b1, b2, b3, b4, b5, b6, b7, b8, b9⟩ := ba
  obtain ⟨i1, i2, i3, i4, i5, i6, i7, i8⟩ := ia
  have n1 : aNr B = aNr A := ae.1
  have n2 : aSf B = aSf A := ae.2.1
  have n3 : aNm B = aNm A := ae.2.2.1
  have n4 : aRo B = ro := ae.2.2.2.1
  have n5 : ∀ s, s ≤ aNs A → aCf B s = aCf A s := ae.2.2.2.2.1
  have n7 : ∀ s, s < aNs A → aSk B s = aSk A s := fun s hs => (ae.2.2.2.2.2.2 s hs).1
  have e1 : aNr (aRF B ns m) = aNr A + 1 := by show aNr B + 1 = _; rw [n1]
  have f1 : ∀ q, q ≤ aNr A → aSf (aRF B ns m) q = aSf A q := fun q hq => by
    show (if q ≤ aNr B then aSf B q else ns) = _
    rw [if_pos (by omega), n2]
  have f2 : aSf (aRF B ns m) (aNr A + 1) = ns := by
    show (if aNr A + 1 ≤ aNr B then aSf B (aNr A + 1) else ns) = _
    rw [if_neg (by omega)]
  have g1 : ∀ q, q < aNr A → aNm (aRF B ns m) q = aNm A q := fun q hq => by
    show (if q = aNr B then m else aNm B q) = _
    rw [if_neg (by omega), n3]
  have g2 : aNm (aRF B ns m) (aNr A) = m := by
    show (if aNr A = aNr B then m else aNm B (aNr A)) = _
    rw [if_pos n1.symm]
  have e3 : aRo (aRF B ns m) = ro := n4
  have c1 : ∀ s, aCf (aRF B ns m) s = aCf B s := fun _ => rfl
  have k1 : ∀ s, aSk (aRF B ns m) s = aSk B s := fun _ => rfl
  have nsE : aNs A = aSf A (aNr A) := rfl
  have nv : ∀ q, q < 600 → nI q ≠ -1 := fun q hq w => by
    have h0 : (0 : Int32) ≤ nI q := (nle (a := 0) (by decide) (by omega)).mpr (Nat.zero_le _)
    rw [w] at h0; exact ng1 h0
  intro j hj
  obtain ⟨x1, x2⟩ := kx j hj
  obtain ⟨p1, p2⟩ := pc j hj
  rw [e3, e1]
  refine ⟨fun h => ?_, fun q hq h => ?_⟩
  · have hz : aRo A j = -1 := Classical.byContradiction fun w => w (by rw [← x1 w]; exact h)
    rw [ho j hj (by rw [h]; exact fun w => nv _ (by omega) w.symm) 5, same 5 (by decide) (by decide)]
    exact p1 hz
  · by_cases e : q = aNr A
    · subst e
      obtain ⟨y1, y2, y3, y4⟩ := hm j hj h
      rw [g2, f1 _ (Nat.le_refl _), f2, c1, c1, ← nsE, n5 _ (Nat.le_refl _)]
      refine ⟨y3, by rw [y1, hx], by rw [y2, c0], tn, i4, y4, fun i hi => ?_⟩
      rw [i5 i hi]
      unfold aTe
      rw [f1 _ (Nat.le_refl _), f2, n1, n2]
      rfl
    · have hA : aRo A j = nI q := by
        by_cases w : aRo A j = -1
        · rcases x2 w with v | v
          · rw [v] at h; exact absurd h.symm (nv q (by omega))
          · rw [v] at h; exact absurd (nij (by omega) (by omega) h).symm e
        · rw [← x1 w]; exact h
      have hne : ro j ≠ nI (aNr A) := fun w => e (by rw [w] at h; exact (nij (by omega) (by omega) h).symm)
      obtain ⟨y1, y2, y3, T, y4, y5, y6⟩ := p2 q (by omega) hA
      have m1 := Sf_m b3 (show q ≤ aNr A by omega) (Nat.le_refl _)
      have m2 := Sf_m b3 (show q + 1 ≤ aNr A by omega) (Nat.le_refl _)
      rw [ho j hj hne 3, ho j hj hne 4, ho j hj hne 5, ho j hj hne 6, same 3 (by decide) (by decide), same 4 (by decide) (by decide), same 5 (by decide) (by decide), same 6 (by decide) (by decide), g1 q (by omega), f1 q (by omega), f1 (q + 1) (by omega), c1, c1, n5 _ (by omega), n5 _ (by omega)]
      refine ⟨y1, y2, y3, T, y4, y5, fun i hi => ?_⟩
      rw [y6 i hi]
      unfold aTe
      rw [f1 q (by omega), f1 (q + 1) (by omega)]
      refine ⟨?_, ?_⟩
      · rintro ⟨s, s1, s2, s3⟩
        exact ⟨s, s1, s2, by rw [k1, n7 s (by omega)]; exact s3⟩
      · rintro ⟨s, s1, s2, s3⟩
        rw [k1, n7 s (by omega)] at s3
        exact ⟨s, s1, s2, s3⟩
/-- the reference begins a rule -/
theorem rbeg {T : Nat → Int32} {N n k f : Nat} {J : JM} {A : AP} {R : IM} (vt : VT T N) (hq : aNr A < 301) (br : BR T N A k R) (ht : tC T N k ≠ 100) : ∃ R0, l_Mod_readPolicy_50 n J (f + 1) R = (Option.bind (f_Mod_heads n J R0) fun v19 => l_Mod_readPolicy_93 n J (l_Mod_readPolicy_50 n J f) n 0 v19) ∧ R0 = up (up R A_named (aNr A) 0) A_ruleFrom (aNr A) (nI (aNs A)) := by
  obtain ⟨⟨rb, h14, h15, h18, h23⟩, -, -, -⟩ := br
  have i6 : inb (nI (aNr A)) 602 := nki (by omega) (by decide)
  have d1 : (up R A_named (aNr A) 0) MO 23 = nI (aNr A) := by rw [fu (by decide)]; exact h23
  have d2 : (up R A_named (aNr A) 0) MO 18 = nI (aNs A) := by rw [fu (by decide)]; exact h18
  refine ⟨_, ?_, rfl⟩
  rw [l_Mod_readPolicy_50, h14, if_neg ng1, f_Mod_tokenIsEnd, if_neg (fun w => ht ((te_f vt rb).mp w)), Option.bind_some, if_pos rfl, h23, chk_i i6, nkc (by omega), lt, d1, chk_i i6, nkc (by omega), d2, lt]
theorem b160 {n q : Nat} {J : JM} {H : IM → Option IM} {R : IM} (hq : q < 301) (h23 : R MO 23 = nI q) : b_Mod_readPolicy_160 n J H R = H (up (up R A_ruleTo q (R MO 18)) MO 23 (nI (q + 1))) := by
  have d1 : (up R A_ruleTo q (R MO 18)) MO 23 = nI q := by rw [fu (by decide)]; exact h23
  rw [b_Mod_readPolicy_160, h23, chk_i (show inb (nI q) 602 from nki (by omega) (by decide)), nkc (by omega), lt, d1, nk1, lt]
theorem rlA {T : Nat → Int32} {N K n pt k : Nat} {J : JM} {A : AP} {C : IM} (hn : 1000 ≤ n) (vt : VT T N) (hp : isPol pt) (iE : SpE T N K n pt J 0 (recP n pt 11).1) (ba : BA A k) (bc : BC T N K pt A k C) (ht : tC T N k ≠ 100) : (∃ (A' : AP) (k' : Nat) (C' : IM), f_Prd_readRule n pt C = some (1, C') ∧ k < k' ∧ BA A' k' ∧ BC T N K pt A' k' C' ∧ aNr A' = aNr A + 1 ∧ CFr pt C C' ∧ ∀ (J : JM), JOK J → ∀ R : IM, BR T N A k R → ∃ R', (∀ f, l_Mod_readPolicy_50 n J (f + 1) R = l_Mod_readPolicy_50 n J f R') ∧ BR T N A' k' R' ∧ RFw R R') ∨ (∃ (C' : IM) (k' : Nat), f_Prd_readRule n pt C = some (0, C') ∧ k ≤ k' ∧ RA T N K k' C' ∧ CFr pt C C' ∧ ∀ (J : JM), JOK J → ∀ R : IM, BR T N A k R → ∃ R', (∀ f, l_Mod_readPolicy_50 n J (f + 1) R = l_Mod_readPolicy_50 n J f R') ∧ R' MO 14 = nI (tP T N k') ∧ RFw R R') := by
  have p8' := p8 hp
  obtain ⟨c1, c2, c3, c4, c5⟩ := id bc
  obtain ⟨b1, b2, b3, b4, b5, b6, b7, b8, b9⟩ := id ba
  obtain ⟨kK, K9, hK⟩ := RA_K c1
  have cl := cnt_le (f := aRo A) 22
  have q22 : aNr A ≤ 22 := by omega
  have hr0 : RO (aNr A) (aRo A) := fun j hj => (b4 j hj).imp id (fun ⟨q, h1, h2⟩ => ⟨q, by omega, h2⟩)
  -- the reference's state before the head
  have hd0 : ∀ R : IM, BR T N A k R → RTh T N k (aNr A) (up (up R A_named (aNr A) 0) A_ruleFrom (aNr A) (nI (aNs A))) ∧ HO (aRo A) (up (up R A_named (aNr A) 0) A_ruleFrom (aNr A) (nI (aNs A))) ∧ RFw R (up (up R A_named (aNr A) 0) A_ruleFrom (aNr A) (nI (aNs A))) := fun R br => by
    obtain ⟨⟨rb, h14, h15, h18, h23⟩, h2, h3, h4⟩ := br
    refine ⟨⟨RB_c rb (fun j _ => by rw [fu (by decide), fu (by decide)]) (by rw [fu (by decide), fu (by decide)]), ?_, ?_⟩, fun j hj => ?_, RFw_t (RFw_r (Or.inr (Or.inr rfl)) (by omega)) (RFw_r (Or.inl rfl) (by omega))⟩
    · rw [fu (by decide), fu (by decide)]; exact h14
    · rw [fu (by decide), fu (by decide)]; exact h23
    · rw [fu (by decide), fu (by decide)]; exact h3 j hj
  rcases hdA (n := n) hn vt (by omega) c1 c5 hr0 with ⟨C0, C1, k1, ro, h1, h2, h3, h4, h5, h6, h7, h8, h9, h10⟩ | ⟨C1, k1, h1, h2, h3, h4, h5⟩
  rotate_left
  · refine Or.inr ⟨C1, k1, ?_, h2, h3, CFr_k h4, fun J hJ R br => ?_⟩
    · rcases h1 with h1 | ⟨C0, h1, h1'⟩
      · rw [f_Prd_readRule, h1, Option.bind_some, if_pos rfl, b_Prd_readRule_25]
      · rw [f_Prd_readRule, h1, Option.bind_some, if_neg one0, h1', Option.bind_some, if_pos rfl, b_Prd_readRule_25]
    · obtain ⟨g1, g2, g3⟩ := hd0 R br
      obtain ⟨R1, e1, e2, e3⟩ := h5 J hJ _ g1 g2
      have r23 : R1 MO 23 = nI (aNr A) := by rw [e3.2.2 23 (by decide)]; exact g1.2.2
      refine ⟨up (up R1 A_ruleTo (aNr A) (R1 MO 18)) MO 23 (nI (aNr A + 1)), fun f => ?_, ?_, RFw_t g3 (RFw_t (RFw_k e3) (RFw_t (RFw_r (Or.inr (Or.inl rfl)) (by omega)) (RFw_u (by decide))))⟩
      · obtain ⟨R0, y1, y2⟩ := rbeg (n := n) (f := f) (J := J) vt (by omega) br ht
        obtain ⟨g, hg⟩ : ∃ g, n = g + 1 := ⟨n - 1, by omega⟩
        have e4 : l_Mod_readPolicy_93 n J (l_Mod_readPolicy_50 n J f) n 0 R1 = l_Mod_readPolicy_93 n J (l_Mod_readPolicy_50 n J f) (g + 1) 0 R1 := congrArg (fun z => l_Mod_readPolicy_93 n J (l_Mod_readPolicy_50 n J f) z 0 R1) hg
        rw [y1, y2, e1, Option.bind_some, e4, l_Mod_readPolicy_93, if_pos (by rw [e2]; exact (tP_b vt).1), b160 (by omega) r23]
      · rw [up_ne (Or.inr (by decide)), fu (by decide)]; exact e2
  -- the class behind the head
  obtain ⟨D, hD⟩ : ∃ D, D = up (up C1 7 3 0) 7 4 0 := ⟨_, rfl⟩
  have oD : ∀ b, b ≠ 7 → D b = C1 b := fun b z => by rw [hD, fu z, fu z]
  have o1 : ∀ b, b ≠ 1 → b ≠ 7 → D b = C b := fun b z1 z2 => by rw [oD b z2, h9.1 b z1 z2]
  have x2e : C1 pt 0 = nI (aCf A (aNs A) + aNs A) := by rw [h9.1 pt (by omega) (by omega)]; exact c2
  have ec : f_Prd_readRule n pt C = l_Prd_readRule_47 n pt n (C 7 2) (C1 pt 0) (nI 0) D := by
    rw [f_Prd_readRule, h1, Option.bind_some, if_neg one0, h2, Option.bind_some, if_neg one0, lt, lt, hD]
    rfl
  have ia : IA (aSR A ro) (aNs A) k1 0 0 := by
    refine ⟨b1, Nat.le_refl _, fun s g1 g2 => ?_, by decide, fun j hj => ?_, mB_0, by show aCf A (aNs A) + aNs A ≤ k1; omega, by omega⟩
    · have g1' : aNs A ≤ s := g1
      omega
    · refine ⟨fun w => absurd w ?_, fun ⟨s, g1, g2, _⟩ => ?_⟩
      · rw [Nat.zero_div]; decide
      · have g1' : aNs A ≤ s := g1
        omega
  have ic : IC T N K pt (aSR A ro) (aNs A) k1 0 0 D := by
    refine ⟨by rw [hD]; exact RA_u (RA_u h4 (by decide)) (by decide), ?_, by rw [hD, up_ne (Or.inr (by decide)), up_self], by rw [hD, up_self]; rfl, ?_⟩
    · rw [o1 pt (by omega) (by omega)]; exact c2
    · exact ACs_c (A := A) c3 b1 (fun j _ => by rw [o1 (pt + 1) (by omega) (by omega), o1 (pt + 2) (by omega) (by omega)]; exact ⟨rfl, rfl⟩)
  have cfD : CFr pt C D := CFr_t (CFr_k h9) (by rw [hD]; exact ⟨fun b _ z _ => by rw [fu z, fu z], fun j _ z2 z3 => by rw [up_ne (Or.inr z3), up_ne (Or.inr z2)]⟩)
  have irA : ∀ (J : JM), JOK J → ∀ R : IM, BR T N A k R → ∃ R1, f_Mod_heads n J (up (up R A_named (aNr A) 0) A_ruleFrom (aNr A) (nI (aNs A))) = some R1 ∧ IR T N (aSR A ro) (aNs A) k1 0 R1 ∧ HO ro R1 ∧ (∀ b, b ≠ 102 → b ≠ 112 → b ≠ 114 → b ≠ 115 → R1 b = R b) ∧ R1 A_ruleFrom (aNr A) = nI (aNs A) ∧ (∀ j, j ≠ aNr A → R1 A_ruleFrom j = R A_ruleFrom j ∧ R1 A_named j = R A_named j) ∧ RFw R R1 := fun J hJ R br => by
    obtain ⟨g1, g2, g3⟩ := hd0 R br
    obtain ⟨R1, e1, e2, e3, e4⟩ := h10 J hJ _ g1 g2
    obtain ⟨⟨rb, h14, h15, h18, h23⟩, ar, ho, ru⟩ := br
    have o : ∀ b, b ≠ 102 → b ≠ 112 → b ≠ 114 → b ≠ 115 → R1 b = R b := fun b z1 z2 z3 z4 => by rw [e4.1 b z1 z3, fu z2, fu z4]
    refine ⟨R1, e1, ⟨⟨e2.1, e2.2.1, ?_, ?_, e2.2.2⟩, ?_, ?_⟩, e3, o, ?_, fun j hj => ⟨?_, ?_⟩, RFw_t g3 (RFw_k e4)⟩
    · rw [e4.2.2 15 (by decide), fu (by decide), fu (by decide)]; exact h15
    · rw [e4.2.2 18 (by decide), fu (by decide), fu (by decide)]; exact h18
    · refine ARs_c (A := A) ar (fun a ha => ?_)
      have s : ∀ a, a ∈ [106, 107, 108, 109, 110, 111] → a ≠ 102 ∧ a ≠ 112 ∧ a ≠ 114 ∧ a ≠ 115 := by decide
      obtain ⟨s1, s2, s3, s4⟩ := s a ha
      exact o a s1 s2 s3 s4
    · show R1 A_named (aNr A) = 0
      rw [e4.1 _ (by decide) (by decide), fu (by decide), up_self]
    · rw [e4.1 _ (by decide) (by decide), up_self]
    · rw [e4.1 _ (by decide) (by decide), up_ne (Or.inr hj), fu (by decide)]
    · rw [e4.1 _ (by decide) (by decide), fu (by decide), up_ne (Or.inr hj)]
  rcases stL (x1 := C 7 2) (x2 := C1 pt 0) hn vt hp iE (K - k1) n 0 k1 (aNs A) (aSR A ro) 0 0 D (Nat.le_refl _) (by omega) (by omega) (by show aNr A < 602; omega) ia ic with ⟨B, ns, k2, m, tn, C2, s1, s2, s3, s4, s5, s6, s7, s8, s9, s10⟩ | ⟨C2, k2, s1, s2, s3, s4, s5⟩
  rotate_left
  · have kK2 := (RA_K s3).1
    refine Or.inr ⟨C2, k2, by rw [ec, s1], by omega, s3, CFr_t cfD (CFr_s s4), fun J hJ R br => ?_⟩
    obtain ⟨R1, e1, e2, e3, e4, e5, e6, e7⟩ := irA J hJ R br
    obtain ⟨s, R2, f1, f2, f3, f4⟩ := s5 J hJ R1 0 (by decide) rfl e2
    have r23 : R2 MO 23 = nI (aNr A) := by rw [f4.2.2.2.2 23 (by decide)]; exact e2.1.2.2.2.2
    refine ⟨up (up R2 A_ruleTo (aNr A) (R2 MO 18)) MO 23 (nI (aNr A + 1)), fun f => ?_, ?_, RFw_t e7 (RFw_t (RFw_y (q := aNr A) (by omega) f4) (RFw_t (RFw_r (Or.inr (Or.inl rfl)) (by omega)) (RFw_u (by decide))))⟩
    · obtain ⟨R0, y1, y2⟩ := rbeg (n := n) (f := f) (J := J) vt (by omega) br ht
      have e8 := f2 (l_Mod_readPolicy_50 n J f) (n - s)
      rw [show n - s + s = n by omega] at e8
      rw [y1, y2, e1, Option.bind_some, show l_Mod_readPolicy_93 n J (l_Mod_readPolicy_50 n J f) n 0 R1 = _ from e8, b160 (by omega) r23]
    · rw [up_ne (Or.inr (by decide)), fu (by decide)]; exact f3
  -- the rule is whole
  have kK2 := (RA_K s7.1).1
  obtain ⟨t1, t2, t3, t4, t5⟩ := id s7
  have n1 : aNr B = aNr A := s9.1
  have n2 : aSf B = aSf A := s9.2.1
  have n3 : aNm B = aNm A := s9.2.2.1
  have n4 : aRo B = ro := s9.2.2.2.1
  have e1' : aNr (aRF B ns m) = aNr A + 1 := by show aNr B + 1 = _; rw [n1]
  have f1' : ∀ q, q ≤ aNr A → aSf (aRF B ns m) q = aSf A q := fun q hq => by
    show (if q ≤ aNr B then aSf B q else ns) = _
    rw [if_pos (by omega), n2]
  have f2' : aSf (aRF B ns m) (aNr A + 1) = ns := by
    show (if aNr A + 1 ≤ aNr B then aSf B (aNr A + 1) else ns) = _
    rw [if_neg (by omega)]
  have e2' : aNs (aRF B ns m) = ns := by rw [aNs, e1', f2']
  have g1' : ∀ q, q < aNr A → aNm (aRF B ns m) q = aNm A q := fun q hq => by
    show (if q = aNr B then m else aNm B q) = _
    rw [if_neg (by omega), n3]
  have g2' : aNm (aRF B ns m) (aNr A) = m := by
    show (if aNr A = aNr B then m else aNm B (aNr A)) = _
    rw [if_pos n1.symm]
  have m72 : C2 7 2 = C1 7 2 := by rw [s8.2 2 (by decide) (by decide), hD, up_ne (Or.inr (by decide)), up_ne (Or.inr (by decide))]
  have nv : ∀ q, q < 600 → nI q ≠ -1 := fun q hq w => by
    have h0 : (0 : Int32) ≤ nI q := (nle (a := 0) (by decide) (by omega)).mpr (Nat.zero_le _)
    rw [w] at h0; exact ng1 h0
  have msk : ∀ i, i < 22 → (tbi ((C2 7 2) &&& ((C 7 2) ^^^ (-1))) i ↔ ro i = nI (aNr A)) := fun i hi => by
    rw [tb_m hi, m72, h5 i hi, c5 i hi]
    obtain ⟨u1, u2⟩ := h7 i hi
    refine ⟨fun ⟨w1, w2⟩ => ?_, fun w => ?_⟩
    · have w3 : aRo A i = -1 := Classical.byContradiction fun v => w2 v
      exact (u2 w3).resolve_left w1
    · refine ⟨by rw [w]; exact nv _ (by omega), fun v => ?_⟩
      rcases b4 i hi with v' | ⟨q, v1, v2⟩
      · exact v v'
      · rw [u1 v, v2] at w
        have := nij (by omega) (by omega) w
        omega
  obtain ⟨I', x1, x2, x3, x4⟩ := adRl (n := n) (pt := pt) (x1 := (C2 7 2) &&& ((C 7 2) ^^^ (-1))) (x2 := C1 pt 0) (x3 := C2 7 3) (x4 := C2 7 4) 22 n 0 C2 rfl (by omega)
  have sm : ∀ a, 3 ≤ a → a ≤ 6 → C2 (pt + a) = C (pt + a) := fun a z1 z2 => by
    rw [s8.1 (pt + a) (by omega) (by omega) (by omega) (by omega) (by omega), o1 (pt + a) (by omega) (by omega)]
  have oI : ∀ b, b < 8 → I' b = C2 b := fun b hb => x4 b (by omega) (by omega) (by omega) (by omega)
  have i0 : I' pt = C2 pt := x4 pt (by omega) (by omega) (by omega) (by omega)
  have i1 : I' (pt + 1) = C2 (pt + 1) := x4 _ (by omega) (by omega) (by omega) (by omega)
  have i2 : I' (pt + 2) = C2 (pt + 2) := x4 _ (by omega) (by omega) (by omega) (by omega)
  refine Or.inl ⟨aRF B ns m, k2, I', ?_, by omega, BA_n ba s4 s9 s6 h6 h8 ?_, ⟨RA_c (oI 1 (by decide)) (oI 2 (by decide)) (oI 3 (by decide)) (oI 4 (by decide)) (oI 5 (by decide)) t1, ?_, ?_, ?_, ?_⟩, e1', CFr_t cfD (CFr_t (CFr_s s8) ⟨fun b _ _ z => x4 b (by omega) (by omega) (by omega) (by omega), fun j _ _ _ => by rw [oI 7 (by decide)]⟩), fun J hJ R br => ?_⟩
  · rw [ec, s1, b_Prd_readRule_93, f_Pol_addRule, show l_Pol_addRule_3 n pt n ((C2 7 2) &&& ((C 7 2) ^^^ (-1))) (C1 pt 0) (C2 7 3) (C2 7 4) 0 C2 = some I' from x1, Option.bind_some]
  · omega
  · rw [e2', i0]; exact t2
  · rw [e2']
    exact ACs_c (A := B) t5 s6.1 (fun j _ => by rw [i1, i2]; exact ⟨rfl, rfl⟩)
  · refine PCr_n (C := C) (C2 := C2) (x := C1 pt 0) ba s9 s6 h6 h7 (by omega) c4 sm x2e t2 (fun i hi w => ?_) (fun i hi w a => x3 i (Or.inr (fun v => w ((msk i hi).mp v))) a)
    have := x2 i hi (Nat.zero_le _) ((msk i hi).mpr w)
    rw [t3, t4] at this
    exact this
  · intro j hj
    rw [oI 7 (by decide), m72, show aRo (aRF B ns m) = ro from n4]
    exact h5 j hj
  · obtain ⟨R1, e1, e2, e3, e4, e5, e6, e7⟩ := irA J hJ R br
    obtain ⟨s, rn, R2, f1, f2, ⟨rs, ar, nm⟩, f4⟩ := s10 J hJ R1 0 (by decide) rfl e2
    rw [n1] at rs nm
    have f4' : RFy (aNr A) R1 R2 := f4
    obtain ⟨R3, hR3⟩ : ∃ R3, R3 = up (up R2 A_ruleTo (aNr A) (nI ns)) MO 23 (nI (aNr A + 1)) := ⟨_, rfl⟩
    have o3 : ∀ b, b ≠ 102 → b ≠ 113 → R3 b = R2 b := fun b z1 z2 => by rw [hR3, fu z1, fu z2]
    have j3 : ∀ j, j ≠ 23 → R3 MO j = R2 MO j := fun j hj => by rw [hR3, up_ne (Or.inr hj), fu (by decide)]
    refine ⟨R3, fun f => ?_, ⟨?_, ?_, fun j hj => ?_, fun q hq => ?_⟩, ?_⟩
    · obtain ⟨R0, y1, y2⟩ := rbeg (n := n) (f := f) (J := J) vt (by omega) br ht
      have e8 := f2 (l_Mod_readPolicy_50 n J f) (n - s)
      rw [show n - s + s = n by omega] at e8
      obtain ⟨g, hg⟩ : ∃ g, n - s = g + 1 := ⟨n - s - 1, by omega⟩
      have e9 : l_Mod_readPolicy_93 n J (l_Mod_readPolicy_50 n J f) (n - s) (nI rn) R2 = b_Mod_readPolicy_160 n J (l_Mod_readPolicy_50 n J f) R2 := by
        rw [hg, l_Mod_readPolicy_93, rs.2.1, if_neg ng1, f_Mod_tokenIsEnd]
        by_cases w : tC T N k2 = 100
        · rw [if_pos ((te_f vt rs.1).mpr w), Option.bind_some, if_neg one0]
        · rw [if_neg (fun v => w ((te_f vt rs.1).mp v)), Option.bind_some, if_pos rfl, inF, if_pos ((in22_i vt rs.1).mpr (s2.resolve_right w)), Option.bind_some, if_neg one0]
      rw [y1, y2, e1, Option.bind_some, show l_Mod_readPolicy_93 n J (l_Mod_readPolicy_50 n J f) n 0 R1 = _ from e8, e9, b160 (by omega) rs.2.2.2.2, rs.2.2.2.1, hR3]
    · rw [e2', e1']
      exact ⟨RB_c rs.1 (fun j hj => j3 j (fun y => by rw [y] at hj; revert hj; decide)) (o3 _ (by decide) (by decide)), by rw [j3 14 (by decide)]; exact rs.2.1, by rw [j3 15 (by decide)]; exact rs.2.2.1, by rw [j3 18 (by decide)]; exact rs.2.2.2.1, by rw [hR3, up_self]⟩
    · rw [e2']
      refine ARs_c (A := B) ar (fun a ha => ?_)
      have s : ∀ a, a ∈ [106, 107, 108, 109, 110, 111] → a ≠ 102 ∧ a ≠ 113 := by decide
      exact o3 a (s a ha).1 (s a ha).2
    · rw [show aRo (aRF B ns m) = ro from n4, o3 _ (by decide) (by decide), f4'.1 _ (by decide)]
      exact e3 j hj
    · rw [e1'] at hq
      have r113 : ∀ j, j ≠ aNr A → R3 A_ruleTo j = R A_ruleTo j := fun j hj => by
        rw [hR3, fu (by decide), up_ne (Or.inr hj), f4'.1 _ (by decide), e4 _ (by decide) (by decide) (by decide) (by decide)]
      by_cases e : q = aNr A
      · subst e
        rw [f1' _ (Nat.le_refl _), f2', g2']
        refine ⟨?_, ?_, ?_⟩
        · rw [o3 _ (by decide) (by decide), f4'.1 _ (by decide)]; exact e5
        · rw [hR3, fu (by decide), up_self]
        · rw [o3 _ (by decide) (by decide)]; exact nm
      · rw [f1' _ (by omega), f1' _ (by omega), g1' _ (by omega)]
        obtain ⟨y1, y2, y3⟩ := br.2.2.2 q (by omega)
        refine ⟨?_, by rw [r113 q e]; exact y2, ?_⟩
        · rw [o3 _ (by decide) (by decide), f4'.1 _ (by decide), (e6 q e).1]; exact y1
        · rw [o3 _ (by decide) (by decide), f4'.2.2.2.1 q e, (e6 q e).2]; exact y3
    · rw [hR3]
      exact RFw_t e7 (RFw_t (RFw_y (q := aNr A) (by omega) f4') (RFw_t (RFw_r (Or.inr (Or.inl rfl)) (by omega)) (RFw_u (by decide))))
