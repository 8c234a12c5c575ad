/-! keep -/
set_option maxHeartbeats 1000000 in
theorem kp_all {A : AP} {I : IM} {n : Nat} (hn : 1000 ≤ n) (w : WF A) (r : PR A 0 0 0 0 I) (h : PH A I) : ∃ K, f_Mod_keep n I = some K ∧ (∀ c, c ≠ MO → ¬ (106 ≤ c ∧ c ≤ 115) → K c = I c) ∧ (∀ j, j ≠ 0 → K MO j = I MO j) ∧ K A_statementAt = I A_statementAt ∧ PR A 0 0 0 0 K ∧ PR A 22 301 300 1000 K := by
  obtain ⟨-, h15, h18, h23⟩ := h
  have w1 := w.1
  have w2 := w.2.2.2.1
  have w3 := w.2.2.2.2.2.2.1
  obtain ⟨I0, hI0⟩ : ∃ z, z = up I MO 0 0 := ⟨_, rfl⟩
  have z0 : ∀ c, c ≠ MO → I0 c = I c := fun c hc => by rw [hI0]; exact fu hc
  have zm : ∀ j, j ≠ 0 → I0 MO j = I MO j := fun j hj => by rw [hI0]; exact up_ne (Or.inr hj)
  obtain ⟨K1, e1, a1, b1, n1⟩ := kp7 (n := n) (I := I0) (nc := aNc A) (by omega) (by rw [zm 15 (by decide)]; exact h15) (aNc A) n 0 I0 (by omega) (by omega) ⟨fun _ _ _ => rfl, fun _ _ => ⟨rfl, rfl⟩, fun i hi => absurd hi (by omega)⟩
  obtain ⟨K2, e2, a2, b2, n2⟩ := kp9 (n := n) (I := K1) (ns := aNs A) (by omega) (by rw [a1 MO (by decide) (by decide), zm 18 (by decide)]; exact h18) (aNs A) n 0 K1 (by omega) (by omega) ⟨fun _ _ _ _ => rfl, fun _ _ => ⟨rfl, rfl, rfl⟩, fun i hi => absurd hi (by omega)⟩
  obtain ⟨K3, e3, a3, b3, n3⟩ := kp6 (n := n) (I := K2) (nr := aNr A) (by omega) (by rw [a2 MO (by decide) (by decide) (by decide), a1 MO (by decide) (by decide), zm 23 (by decide)]; exact h23) (aNr A) n 0 K2 (by omega) (by omega) ⟨fun _ _ _ _ => rfl, fun _ _ => ⟨rfl, rfl, rfl⟩, fun i hi => absurd hi (by omega)⟩
  obtain ⟨K4, e4, a4, b4, n4⟩ := kp2 (n := n) (I := K3) 22 n 0 K3 (by omega) (by omega) ⟨fun _ _ => rfl, fun _ _ => rfl, fun i hi => absurd hi (by omega)⟩
  have q114 : K3 A_ruleOf = I A_ruleOf := by rw [a3 _ (by decide) (by decide) (by decide), a2 _ (by decide) (by decide) (by decide), a1 _ (by decide) (by decide), z0 _ (by decide)]
  have q112 : K2 A_ruleFrom = I A_ruleFrom := by rw [a2 _ (by decide) (by decide) (by decide), a1 _ (by decide) (by decide), z0 _ (by decide)]
  have q113 : K2 A_ruleTo = I A_ruleTo := by rw [a2 _ (by decide) (by decide) (by decide), a1 _ (by decide) (by decide), z0 _ (by decide)]
  have q115 : K2 A_named = I A_named := by rw [a2 _ (by decide) (by decide) (by decide), a1 _ (by decide) (by decide), z0 _ (by decide)]
  have q108 : K1 A_statementKind = I A_statementKind := by rw [a1 _ (by decide) (by decide), z0 _ (by decide)]
  have q110 : K1 A_statementFrom = I A_statementFrom := by rw [a1 _ (by decide) (by decide), z0 _ (by decide)]
  have q111 : K1 A_statementTo = I A_statementTo := by rw [a1 _ (by decide) (by decide), z0 _ (by decide)]
  have q106 : I0 A_code0 = I A_code0 := z0 _ (by decide)
  have q107 : I0 A_codeValue = I A_codeValue := z0 _ (by decide)
  have u112 : K4 A_ruleFrom = K3 A_ruleFrom := a4 _ (by decide)
  have u113 : K4 A_ruleTo = K3 A_ruleTo := a4 _ (by decide)
  have u115 : K4 A_named = K3 A_named := a4 _ (by decide)
  have u108 : K4 A_statementKind = K2 A_statementKind := by rw [a4 _ (by decide), a3 _ (by decide) (by decide) (by decide)]
  have u110 : K4 A_statementFrom = K2 A_statementFrom := by rw [a4 _ (by decide), a3 _ (by decide) (by decide) (by decide)]
  have u111 : K4 A_statementTo = K2 A_statementTo := by rw [a4 _ (by decide), a3 _ (by decide) (by decide) (by decide)]
  have u106 : K4 A_code0 = K1 A_code0 := by rw [a4 _ (by decide), a3 _ (by decide) (by decide) (by decide), a2 _ (by decide) (by decide) (by decide)]
  have u107 : K4 A_codeValue = K1 A_codeValue := by rw [a4 _ (by decide), a3 _ (by decide) (by decide) (by decide), a2 _ (by decide) (by decide) (by decide)]
  rw [q114] at b4 n4
  rw [q112, q113, q115, ← u112, ← u113, ← u115] at b3 n3
  rw [q108, q110, q111, ← u108, ← u110, ← u111] at b2 n2
  rw [q106, q107, ← u106, ← u107] at b1 n1
  obtain ⟨r1, r2, r3, r4⟩ := r
  simp only [Nat.zero_add] at r1 r2 r3 r4
  have h3 : ∀ x : Nat, nI x + 300 = nI (300 + x) := fun x => by rw [Nat.add_comm 300 x]; exact nad (b := 300)
  have h4 : ∀ x : Nat, nI x + 301 = nI (301 + x) := fun x => by rw [Nat.add_comm 301 x]; exact nad (b := 301)
  have h5 : ∀ x : Nat, nI x + 1000 = nI (1000 + x) := fun x => by rw [Nat.add_comm 1000 x]; exact nad (b := 1000)
  refine ⟨K4, ?_, fun c q1 q2 => ?_, fun j hj => ?_, ?_, ⟨fun k hk => ?_, fun q hq => ?_, fun s hs => ?_, fun i hi => ?_⟩, ⟨fun k hk => ?_, fun q hq => ?_, fun s hs => ?_, fun i hi => ?_⟩⟩
  · show l_Mod_keep_7 n n (nI 0) (up I MO 0 0) = _
    rw [← hI0, e1]
    show l_Mod_keep_92 n n (nI 0) K1 = _
    rw [e2]
    show l_Mod_keep_164 n n (nI 0) K2 = _
    rw [e3]
    exact e4
  · rw [a4 _ (by show c ≠ 114; omega), a3 _ (by show c ≠ 112; omega) (by show c ≠ 113; omega) (by show c ≠ 115; omega), a2 _ (by show c ≠ 108; omega) (by show c ≠ 110; omega) (by show c ≠ 111; omega), a1 _ (by show c ≠ 106; omega) (by show c ≠ 107; omega), z0 _ q1]
  · rw [a4 _ (by decide), a3 _ (by decide) (by decide) (by decide), a2 _ (by decide) (by decide) (by decide), a1 _ (by decide) (by decide), zm j hj]
  · rw [a4 _ (by decide), a3 _ (by decide) (by decide) (by decide), a2 _ (by decide) (by decide) (by decide), a1 _ (by decide) (by decide), z0 _ (by decide)]
  · simp only [Nat.zero_add]
    rw [b4 k hk]
    exact r1 k hk
  · simp only [Nat.zero_add]
    obtain ⟨x1, x2, x3⟩ := b3 q (by omega)
    rw [x1, x2, x3]
    exact r2 q hq
  · simp only [Nat.zero_add]
    obtain ⟨x1, x2, x3⟩ := b2 s (by omega)
    rw [x1, x2, x3]
    exact r3 s hs
  · simp only [Nat.zero_add]
    obtain ⟨x1, x2⟩ := b1 i (by omega)
    rw [x1, x2]
    exact r4 i hi
  · have x := n4 k hk
    refine ⟨fun e => ?_, fun q hq e => ?_⟩
    · rw [x, (r1 k hk).1 e, if_neg (by decide)]
    · rw [x, (r1 k hk).2 q hq e, if_pos (nge (by omega)), h4]
  · obtain ⟨x1, x2, x3⟩ := n3 q hq
    obtain ⟨y1, y2, y3⟩ := r2 q hq
    rw [x1, x2, x3, y1, y2, y3, h3, h3]
    exact ⟨rfl, rfl, rfl⟩
  · obtain ⟨x1, x2, x3⟩ := n2 s hs
    obtain ⟨y1, y2, y3⟩ := r3 s hs
    rw [x1, x2, x3, y1, y2, y3, h5, h5]
    exact ⟨rfl, rfl, rfl⟩
  · obtain ⟨x1, x2, x3⟩ := n1 i hi
    obtain ⟨y1, y2, y3⟩ := r4 i hi
    rw [y1] at x1 x2 x3
    refine ⟨x1, fun j => ?_, fun j => ?_⟩
    · rw [x2 j, y2 j]
      have : aCv A i + nI 0 = aCv A i := Int32.add_zero _
      rw [this]
      rfl
    · rw [x3 j, y3 j]
theorem R8_tl {tl tl' : Int32 → Nat → Prop} {I : IM} {m : Nat} {s : MS} (e : ∀ kd : Int32, 0 ≤ kd.toInt → kd.toInt < 22 → tl kd 0 → tl' kd 0 ∧ ∀ j, j < 3 → (tl' kd (51 + j) ↔ tl kd (51 + j))) (h : R8 tl I m s) : R8 tl' I m s := by
  obtain ⟨e0, e1, e2, e3, e4, e5, e6, e7⟩ := h
  refine ⟨e0, e1, e2, e3, e4, e5, e6, fun q hq => ?_⟩
  obtain ⟨f0, f1, ⟨g1, g2, g3, g4⟩, f3, f4, f5, f6, f7⟩ := e7 q hq
  obtain ⟨z1, z2⟩ := e _ g1 g2 g3
  refine ⟨f0, f1, ⟨g1, g2, z1, g4⟩, f3, f4, fun j hj => ?_, f6, f7⟩
  rw [z2 j hj]
  exact f5 j hj
theorem RM_tl {t : Nat} {tl tl' : Int32 → Nat → Prop} {I : IM} {m : Nat} {s : MS} (e : ∀ kd : Int32, 0 ≤ kd.toInt → kd.toInt < 22 → tl kd 0 → tl' kd 0 ∧ ∀ j, j < 3 → (tl' kd (51 + j) ↔ tl kd (51 + j))) (h : RM t tl I m s) : RM t tl' I m s := by
  obtain ⟨h1, h2, h3, h4, h5, h6, h7, h8, h9⟩ := h
  exact ⟨h1, h2, h3, h4, h5, h6, h7, R8_tl e h8, h9⟩
theorem kdc {kd : Int32} (h0 : 0 ≤ kd.toInt) (h1 : kd.toInt < 22) : kd.toNatClampNeg < 22 ∧ ¬ kd < 0 := by
  have : ¬ kd < 0 := by
    rw [ti]
    simp only [Int32.reduceToInt]
    omega
  exact ⟨nat_lt this h1, this⟩
/-- a kind that the reference has a rule of, by the abstract policy -/
theorem tl_q {A : AP} {I : IM} {kd : Int32} {q : Nat} (w : WF A) (r : PR A 0 0 0 0 I) (hk : kd.toNatClampNeg < 22) (hq : q < aNr A) (e : aRo A kd.toNatClampNeg = nI q) : tlI I kd 0 ∧ ∀ j, j < 3 → (tlI I kd (51 + j) ↔ aTe A q (51 + j)) := by
  have w1 := w.1
  have w2 := w.2.2.2.1
  have x1 := sfl w (show q ≤ aNr A by omega)
  have x2 := sfl w (show q + 1 ≤ aNr A by omega)
  have e1 := (r.1 _ hk).2 q hq e
  obtain ⟨e2, e3, -⟩ := r.2.1 q hq
  simp only [Nat.zero_add] at e1 e2 e3
  have g : 0 ≤ I A_ruleOf kd.toNatClampNeg := by rw [e1]; exact nge (by omega)
  refine ⟨⟨g, Or.inl rfl⟩, fun j hj => ⟨fun h => ?_, fun h => ?_⟩⟩
  · obtain ⟨-, h | ⟨s, h1, h2, h3⟩⟩ := h
    · omega
    · rw [e1, nkc (by omega), e2, nI_toInt (by omega)] at h1
      rw [e1, nkc (by omega), e3, nI_toInt (by omega)] at h2
      have hs : s < aNs A := by omega
      have := (r.2.2.1 s hs).1
      rw [Nat.zero_add] at this
      exact ⟨s, by omega, by omega, by rw [← this]; exact h3⟩
  · obtain ⟨s, h1, h2, h3⟩ := h
    have := (r.2.2.1 s (by omega)).1
    rw [Nat.zero_add] at this
    refine ⟨g, Or.inr ⟨s, ?_, ?_, by rw [this]; exact h3⟩⟩
    · rw [e1, nkc (by omega), e2, nI_toInt (by omega)]; omega
    · rw [e1, nkc (by omega), e3, nI_toInt (by omega)]; omega
theorem tl_n {A : AP} {I : IM} {kd : Int32} (w : WF A) (r : PR A 0 0 0 0 I) (hk : kd.toNatClampNeg < 22) (h : tlI I kd 0) : ∃ q, q < aNr A ∧ aRo A kd.toNatClampNeg = nI q := by
  rcases w.2.2.2.2.2.2.2.1 _ hk with e | e
  · have := (r.1 _ hk).1 e
    rw [Nat.zero_add] at this
    have h1 := h.1
    rw [this] at h1
    exact absurd h1 (by decide)
  · exact e
/-- two states that have one abstract policy at hand tell the same -/
theorem tl_A {A : AP} {I I' : IM} (w : WF A) (r : PR A 0 0 0 0 I) (r' : PR A 0 0 0 0 I') : ∀ kd : Int32, 0 ≤ kd.toInt → kd.toInt < 22 → tlI I kd 0 → tlI I' kd 0 ∧ ∀ j, j < 3 → (tlI I' kd (51 + j) ↔ tlI I kd (51 + j)) := by
  intro kd g1 g2 h
  have hk := (kdc g1 g2).1
  obtain ⟨q, hq, e⟩ := tl_n w r hk h
  obtain ⟨-, x⟩ := tl_q w r hk hq e
  obtain ⟨y0, y⟩ := tl_q w r' hk hq e
  exact ⟨y0, fun j hj => (y j hj).trans (x j hj).symm⟩
theorem ma_keep {KT : (Nat → Int32) → Int32 → AP → Prop} : Ma_keep (Rl (PXk KT)) := by
  intro t ht rl hd ot pt it J I p1 p2 p3 p4 p5 hJ hR
  obtain ⟨d, tx, rc, wi, h69, r1, r2, hp, A, B, wA, wB, rA, hA, cA, rB, cB, kt⟩ := id hR
  obtain ⟨n, hn⟩ : ∃ n : Nat, 1000 ≤ n := ⟨1000, Nat.le_refl _⟩
  have far : 48 + 7 ≤ rl ∨ rl + 7 ≤ 48 := by
    rcases hp with h | h | h
    · omega
    · exact absurd h d.2.2.2.2.1
    · omega
  have p48 : isPol 48 := Or.inr (Or.inl rfl)
  obtain ⟨I1, f1, o1, s1, s2⟩ := paf (I := I) p48 hp far
  have hm : ∀ m, isMch m → ∀ i, i < 19 → m + i < 48 ∨ 48 + 7 ≤ m + i := fun m hm i hi => by rcases hm with rfl | rfl | rfl <;> omega
  have ob : ∀ b, 102 ≤ b → I1 b = I b := fun b hb => o1 b (Or.inr (by omega))
  have rA1 : PR A 0 0 0 0 I1 := PR_c (ob _ (by decide)) (ob _ (by decide)) (ob _ (by decide)) (ob _ (by decide)) (ob _ (by decide)) (ob _ (by decide)) (ob _ (by decide)) (ob _ (by decide)) (ob _ (by decide)) rA
  have hA1 : PH A I1 := by
    unfold PH at hA ⊢
    rw [ob A_statementAt (by decide), ob MO (by decide)]
    exact hA
  obtain ⟨K, fK, oK, mK, aK, rK, rK2⟩ := kp_all hn wA rA1 hA1
  have og : ∀ b, b < 48 ∨ (55 ≤ b ∧ b < 102) → K b = I b := fun b hb => by rw [oK b (by show b ≠ 102; omega) (by omega), o1 b (by omega)]
  have ot2 : ∀ b, 116 ≤ b ∨ (103 ≤ b ∧ b < 106) → K b = I b := fun b hb => by rw [oK b (by show b ≠ 102; omega) (by omega), o1 b (by omega)]
  have mm : ∀ j, j ≠ 0 → K MO j = I MO j := fun j hj => by rw [mK j hj, ob _ (by decide)]
  have og2 : ∀ m, isMch m → ∀ i, i < 19 → K (m + i) = I (m + i) := fun m h i hi => og _ (by rcases h with rfl | rfl | rfl <;> omega)
  have e : curM K = curM I := by
    unfold curM
    congr 1
    · funext j
      exact mm _ (scF_ne j)
    · funext j k
      rw [ot2 _ (by have := arF_ge j; omega)]
  have eo : othM K = othM I := by
    unfold othM
    rw [ot2 A_other (by decide)]
  have tq := tl_A wA rA rK
  refine ⟨n, I1, K, ?_, fK, d, ?_, ?_, ?_, ?_, ?_, ?_, hp, A, A, wA, wA, rK, ?_, ?_, rK2, ?_, ?_⟩
  · rw [f_Eng_keep, f1, Option.bind_some]
  · unfold TX
    rw [og 1 (by omega), og 2 (by omega), ot2 A_signs (by decide), mm 2 (by decide)]
    exact tx
  · intro m hm1
    rw [og2 m hm1 15 (by decide), og2 m hm1 17 (by decide)]
    exact rc m hm1
  · unfold WI
    rw [og 40 (by omega), og 41 (by omega), ot2 A_witness (by decide), mm 71 (by decide)]
    exact wi
  · rw [mm 69 (by decide)]
    exact h69
  · rw [e]
    exact RM_tl tq (RM_t (RM_c (og2 hd p2) r1))
  · rw [eo]
    exact RM_tl tq (RM_t (RM_c (og2 ot p3) r2))
  · obtain ⟨x1, x2⟩ := hA1
    refine ⟨fun s hs => ?_, ?_⟩
    · rw [aK]; exact x1 s hs
    · rw [mK 15 (by decide), mK 18 (by decide), mK 23 (by decide)]
      exact x2
  · refine PC_c (I := I) (fun j hj => og _ ?_) cA
    rcases hp with h | h | h
    · omega
    · exact absurd h d.2.2.2.2.1
    · omega
  · have := PC_m (I := I) (I' := I1) (x := 48) wA s1 s2 cA
    exact PC_c (fun j hj => oK _ (by show _ ≠ (102 : Nat); omega) (by omega)) this
  · rw [ot2 A_kept (by decide), mm 32 (by decide)]
    exact kt
