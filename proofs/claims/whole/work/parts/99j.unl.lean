/-! differ: two rules for one case -/
theorem rule_1 {n : Nat} {x : Int32} {R : IM} (h69 : ¬ R MO 69 = 0) (hx : inb x 602) : f_Mod_rule n x R = l_Mod_rule_141 n n x (R A_ruleFrom x.toNatClampNeg) (up (up (up (up R MO 82 0) MO 83 0) MO 84 (R A_caseValue 0)) MO 85 (R A_caseValue 8)) := by
  have m1 : up R MO 82 0 MO 69 = R MO 69 := up_ne (Or.inr (by decide))
  have m2 : up (up R MO 82 0) MO 83 0 MO 69 = R MO 69 := by rw [up_ne (Or.inr (by decide)), m1]
  have m3 : up (up (up R MO 82 0) MO 83 0) MO 84 (R A_caseValue 0) MO 69 = R MO 69 := by rw [up_ne (Or.inr (by decide)), m2]
  have c1 : up (up R MO 82 0) MO 83 0 A_caseValue (0 : Int32).toNatClampNeg = R A_caseValue 0 := by rw [fu (by decide), fu (by decide)]; rfl
  have c2 : up (up (up R MO 82 0) MO 83 0) MO 84 (R A_caseValue 0) A_caseValue (8 : Int32).toNatClampNeg = R A_caseValue 8 := by rw [fu (by decide), fu (by decide), fu (by decide)]; rfl
  rw [f_Mod_rule, lt, m1, if_neg h69, b_Mod_rule_34, b_Mod_rule_35, lt, m2, if_neg h69, c1, b_Mod_rule_59, lt, m3, if_neg h69, c2, b_Mod_rule_131, lt, chk_i hx, fu (by decide), fu (by decide), fu (by decide), fu (by decide)]
theorem fut {x0 T : Nat} {C : IM} (hx : lenA x0 = 25) (hT : T < 8) : ∃ C', f_Cmp_fillUntold x0 (nI T) C = some C' ∧ (∀ k, k ≠ x0 → C' k = C k) ∧ (∀ j, j ≠ 3 → j ≠ 4 → C' x0 j = C x0 j) ∧ C' x0 3 = (if T / 2 ^ 1 % 2 = 1 then C x0 3 else C x0 10) ∧ C' x0 4 = (if T / 2 ^ 2 % 2 = 1 then C x0 4 else C x0 18) := by
  obtain ⟨-, b2, b4⟩ := bitT T hT
  have s21 : ∀ D : IM, b_Cmp_fillUntold_21 x0 (nI T) D = some (if T / 2 ^ 2 % 2 = 1 then D else up D x0 4 (D x0 18)) := by
    intro D
    unfold b_Cmp_fillUntold_21
    by_cases z : T / 2 ^ 2 % 2 = 1
    · rw [if_neg (fun y => b4.mp y z), if_pos z, b_Cmp_fillUntold_34]
    · rw [if_pos (b4.mpr z), hx, chk_i (by decide), chk_i (by decide), if_neg z, lt, b_Cmp_fillUntold_34]
      rfl
  unfold f_Cmp_fillUntold
  rw [hx, if_pos (by decide)]
  by_cases z : T / 2 ^ 1 % 2 = 1
  · rw [if_neg (fun y => b2.mp y z), s21]
    refine ⟨_, rfl, fun k hk => ?_, fun j h3 h4 => ?_, ?_, ?_⟩
    · split
      · rfl
      · exact fu hk
    · split
      · rfl
      · exact up_ne (Or.inr h4)
    · rw [if_pos z]
      split
      · rfl
      · exact up_ne (Or.inr (by decide))
    · by_cases y : T / 2 ^ 2 % 2 = 1
      · rw [if_pos y, if_pos y]
      · rw [if_neg y, if_neg y, up_self]
  · rw [if_pos (b2.mpr z), chk_i (by decide), chk_i (by decide), lt, s21]
    refine ⟨_, rfl, fun k hk => ?_, fun j h3 h4 => ?_, ?_, ?_⟩
    · split
      · exact fu hk
      · rw [fu hk]; exact fu hk
    · split
      · exact up_ne (Or.inr h3)
      · rw [up_ne (Or.inr h4)]; exact up_ne (Or.inr h3)
    · rw [if_neg z]
      split
      · exact up_self
      · rw [up_ne (Or.inr (by decide))]; exact up_self
    · by_cases y : T / 2 ^ 2 % 2 = 1
      · rw [if_pos y, if_pos y]
        exact up_ne (Or.inr (by decide))
      · rw [if_neg y, if_neg y, up_self]
        exact up_ne (Or.inr (by decide))
theorem au_l {n f : Nat} {C : IM} : l_Cmp_answerUnlike_61 n (f + 4) 2 C = some (if C 43 2 = C 46 2 then (if C 43 3 = C 46 3 then (if C 43 4 = C 46 4 then 0 else 1) else 1) else 1, C) := by
  have k2 : (2 : Int32).toNatClampNeg = 2 := rfl
  have k3 : (2 + 1 : Int32).toNatClampNeg = 3 := rfl
  have k4 : (2 + 1 + 1 : Int32).toNatClampNeg = 4 := rfl
  rw [show f + 4 = f + 3 + 1 from rfl, l_Cmp_answerUnlike_61, if_neg (by decide), chk_i (by decide), k2]
  by_cases z2 : C 43 2 = C 46 2
  · rw [if_pos z2, if_pos z2, show f + 3 = f + 2 + 1 from rfl, l_Cmp_answerUnlike_61, if_neg (by decide), chk_i (by decide), k3]
    by_cases z3 : C 43 3 = C 46 3
    · rw [if_pos z3, if_pos z3, show f + 2 = f + 1 + 1 from rfl, l_Cmp_answerUnlike_61, if_neg (by decide), chk_i (by decide), k4]
      by_cases z4 : C 43 4 = C 46 4
      · rw [if_pos z4, if_pos z4, l_Cmp_answerUnlike_61, if_pos (by decide)]
      · rw [if_neg z4, if_neg z4]
    · rw [if_neg z3, if_neg z3]
  · rw [if_neg z2, if_neg z2]
/-- what differ's frame leaves alone -/
def DF (C0 C : IM) : Prop := ∀ k, ¬ (41 ≤ k ∧ k ≤ 47) → C k = C0 k
def DR (R0 R : IM) : Prop := (∀ k, k ≠ MO → k ≠ 136 → k ≠ 140 → R k = R0 k) ∧ ∀ j, ¬ (82 ≤ j ∧ j ≤ 86) → j ≠ 68 → j ≠ 69 → R MO j = R0 MO j
theorem FD {W m : Nat} {nm : Int32} {C R C' R' : IM} (h15 : ¬ tbi nm 15) (np : ¬ tbi nm 15 → NP m C R C' R') (fc : FCr W m C C') (fr : FRr R R') : (∀ k, k ≠ W → k ≠ W + 1 → k ≠ W + 2 → C' k = C k) ∧ (∀ k, k ≠ MO → k ≠ 140 → R' k = R k) ∧ ∀ j, ¬ (82 ≤ j ∧ j ≤ 86) → j ≠ 68 → R' MO j = R MO j := by
  obtain ⟨a1, a2, a3, a4, a5, a6⟩ := np h15
  refine ⟨fun k z1 z2 z3 => ?_, fun k z1 z2 => ?_, fun j z1 z2 => ?_⟩
  · by_cases y1 : k = m + 11
    · rw [y1]; exact a1
    · by_cases y2 : k = m + 12
      · rw [y2]; exact a2
      · by_cases y3 : k = m + 13
        · rw [y3]; exact a3
        · exact fc.1 k z1 z2 z3 y1 y2 y3
  · by_cases y1 : k = 129
    · rw [y1]; exact a4
    · by_cases y2 : k = 130
      · rw [y2]; exact a5
      · exact fr.1 k z1 z2 y1 y2
  · by_cases y : j = 55
    · rw [y]; exact a6
    · exact fr.2 j z1 y z2
/-- the two rules and their places -/
def DA (A B : AP) (p n m kd qa qb : Nat) (C R : IM) : Prop := 1000 ≤ n ∧ isMch m ∧ isPol p ∧ WF A ∧ WF B ∧ PC A p C ∧ PC B 48 C ∧ PR A 0 0 0 0 R ∧ PR B 22 301 300 1000 R ∧ kd < 22 ∧ qa < aNr A ∧ qb < aNr B ∧ aRo A kd = nI qa ∧ aRo B kd = nI qb ∧ (aNm A qa).toInt < 32768 ∧ (aNm B qb).toInt < 32768 ∧ (∀ k, k < 96 → C (m + 5) k = R A_owners k) ∧ PP m C R
theorem nb15 {A : AP} {q : Nat} (wf : WF A) (hq : q < aNr A) (h : (aNm A q).toInt < 32768) : ¬ tbi (aNm A q) 15 := by
  have g0 := (wf.2.2.2.2.2.2.2.2.1 q hq).1
  unfold tbi
  have : aNm A q >>> (nI 15 &&& 31) = 0 := (sh15 g0).mpr h
  rw [this]
  decide
set_option maxHeartbeats 2000000 in
theorem unl {A B : AP} {p n m kd qa qb : Nat} {C R : IM} {cv : Nat → Int32} (da : DA A B p n m kd qa qb C R) (hcv : ∀ k, k < 15 → R A_caseValue k = cv k) (h43 : ∀ k, k < 15 → C 43 (10 + k) = cv k) (h46 : ∀ k, k < 15 → C 46 (10 + k) = cv k) : ∃ x C2 C3 C4 R4, f_Wrk_workOut n 42 p (nI kd) m C = some C2 ∧ f_Wrk_workOut n 45 48 (nI kd) m C2 = some C3 ∧ f_Cmp_answerUnlike n (C3 (p + 6) kd) (C3 (48 + 6) kd) C3 = some (x, C4) ∧ f_Mod_answerUnlike n (nI qa) (nI (301 + qb)) R = some (x, R4) ∧ (∀ k, ¬ (42 ≤ k ∧ k ≤ 47) → C4 k = C k) ∧ (∀ k, k ≠ MO → k ≠ 140 → R4 k = R k) ∧ (∀ j, ¬ (82 ≤ j ∧ j ≤ 86) → j ≠ 68 → j ≠ 69 → R4 MO j = R MO j) ∧ R4 MO 69 = 0 := by
  obtain ⟨hn, hm, hp, wA, wB, pcA, pcB, prA, prB, hk, hqa, hqb, eA, eB, nA, nB, ow, pp⟩ := da
  have a15 := nb15 wA hqa nA
  have b15 := nb15 wB hqb nB
  have p48 : isPol 48 := Or.inr (Or.inl rfl)
  have mm : m + 19 ≤ 40 ∨ 47 < m := by rcases hm with rfl | rfl | rfl <;> omega
  have pp7 : ∀ {p'}, isPol p' → ∀ j, j < 7 → p' + j < 40 ∨ 47 < p' + j := fun {p'} hp' j hj => by rcases hp' with rfl | rfl | rfl <;> omega
  obtain ⟨R1, hR1⟩ : ∃ z, z = up R MO 69 1 := ⟨_, rfl⟩
  have r1b : ∀ k, k ≠ MO → R1 k = R k := fun k z => by rw [hR1, fu z]
  have r1m : ∀ j, j ≠ 69 → R1 MO j = R MO j := fun j z => by rw [hR1, up_ne (Or.inr z)]
  have n69 : ¬ R1 MO 69 = 0 := by rw [hR1, up_self]; decide
  have nv : ∀ D : IM, D MO 69 = R1 MO 69 → D A_caseValue = R1 A_caseValue → ∀ k, k < 15 → f_Mod_nameValue (nI k) D = some (cv k) := fun D d1 d2 k hk15 => by
    unfold f_Mod_nameValue
    rw [d1, if_neg n69, chk_i (nki hk15 (by decide)), nkc (by omega), d2, r1b _ (by decide), hcv k hk15]
  have ebA : EB A p qa n 42 m 0 0 0 0 C R1 := ⟨hn, hm, Or.inr (Or.inl rfl), hp, wA, pcA, PR_c (r1b _ (by decide)) (r1b _ (by decide)) (r1b _ (by decide)) (r1b _ (by decide)) (r1b _ (by decide)) (r1b _ (by decide)) (r1b _ (by decide)) (r1b _ (by decide)) (r1b _ (by decide)) prA, by decide, hqa, fun k hk15 _ => by rw [nv R1 rfl rfl k hk15, h43 k hk15], fun k hk96 => by rw [r1b _ (by decide)]; exact ow k hk96, by decide, by decide, PP_c rfl rfl rfl (r1b _ (by decide)) (r1b _ (by decide)) (r1m 55 (by decide)) pp⟩
  have w1 := wA.1
  have w2 := wB.1
  obtain ⟨C2, R2, f1, f2, fc, fr, pp2, np, un, out⟩ := ework (k := kd) (dt := 0) (dn := R1 A_caseValue 0) (dw := R1 A_caseValue 8) ebA hk eA (by
    have := rule_1 (n := n) (x := nI (0 + qa)) n69 (nki (by omega) (by decide))
    rw [nkc (by omega)] at this
    exact this)
  obtain ⟨g1, g2, g3⟩ := FD a15 np fc fr
  have c2b : ∀ k, ¬ (42 ≤ k ∧ k ≤ 44) → C2 k = C k := fun k z => g1 k (by omega) (by omega) (by omega)
  have r2b : ∀ k, k ≠ MO → k ≠ 140 → R2 k = R k := fun k z1 z2 => by rw [g2 k z1 z2, r1b k z1]
  have e69 : R2 MO 69 = R1 MO 69 := g3 69 (by decide) (by decide)
  have ecv : R2 A_caseValue = R1 A_caseValue := g2 _ (by decide) (by decide)
  have ebB : EB B 48 qb n 45 m 22 301 300 1000 C2 R2 := ⟨hn, hm, Or.inr (Or.inr rfl), p48, wB, PC_c (fun j hj => c2b _ (by have := pp7 p48 j hj; omega)) pcB, PR_c (r2b _ (by decide) (by decide)) (r2b _ (by decide) (by decide)) (r2b _ (by decide) (by decide)) (r2b _ (by decide) (by decide)) (r2b _ (by decide) (by decide)) (r2b _ (by decide) (by decide)) (r2b _ (by decide) (by decide)) (r2b _ (by decide) (by decide)) (r2b _ (by decide) (by decide)) prB, by decide, hqb, fun k hk15 _ => by rw [nv R2 e69 ecv k hk15, c2b (45 + 1) (by decide), h46 k hk15], fun k hk96 => by rw [c2b _ (by omega), r2b _ (by decide) (by decide)]; exact ow k hk96, by decide, by decide, pp2⟩
  obtain ⟨C3, R3, f3, f4, fc3, fr3, pp3, np3, un3, out3⟩ := ework (k := kd) (dt := 0) (dn := R2 A_caseValue 0) (dw := R2 A_caseValue 8) ebB hk eB (by
    have := rule_1 (n := n) (x := nI (301 + qb)) (R := R2) (by rw [e69]; exact n69) (nki (by omega) (by decide))
    rw [nkc (by omega)] at this
    exact this)
  obtain ⟨k1, k2, k3⟩ := FD b15 np3 fc3 fr3
  have c3b : ∀ k, ¬ (45 ≤ k ∧ k ≤ 47) → C3 k = C2 k := fun k z => k1 k (by omega) (by omega) (by omega)
  have cv0 : R1 A_caseValue 0 = cv 0 := by rw [r1b _ (by decide), hcv 0 (by decide)]
  have cv8 : R1 A_caseValue 8 = cv 8 := by rw [r1b _ (by decide), hcv 8 (by decide)]
  rw [cv0, cv8] at un out
  rw [ecv, cv0, cv8] at un3 out3
  obtain ⟨T1, hT1, eT1, bT1⟩ := ((pcA.1 kd hk).2 qa hqa eA).2.2.2
  obtain ⟨T2, hT2, eT2, bT2⟩ := ((pcB.1 kd hk).2 qb hqb eB).2.2.2
  have t1 : C3 (p + 6) kd = nI T1 := by rw [c3b _ (by have := pp7 hp 6 (by decide); omega), c2b _ (by have := pp7 hp 6 (by decide); omega)]; exact eT1
  have t2 : C3 (48 + 6) kd = nI T2 := by rw [c3b _ (by decide), c2b _ (by decide)]; exact eT2
  have x43 : ∀ j, C3 43 j = C2 43 j := fun j => by rw [c3b 43 (by decide)]
  -- the reference's verdict
  have rx : f_Mod_answerUnlike n (nI qa) (nI (301 + qb)) R = some (if (if R2 MO 82 = 3 then 1 else 0 : Int32) = (if R3 MO 82 = 3 then 1 else 0 : Int32) then (if (if R2 MO 82 = 3 then 1 else 0 : Int32) = 0 then (if R3 MO 83 = R2 MO 83 then (if R3 MO 84 = R2 MO 84 then (if R3 MO 85 = R2 MO 85 then 0 else 1) else 1) else 1) else 0) else 1, up R3 MO 69 0) := by
    have f2' : f_Mod_rule n (nI qa) R1 = some R2 := by rw [Nat.zero_add] at f2; exact f2
    rw [f_Mod_answerUnlike, lt, ← hR1, f2', Option.bind_some, f4, Option.bind_some, lt, up_ne (Or.inr (show 82 ≠ 69 by decide)), up_ne (Or.inr (show 83 ≠ 69 by decide)), up_ne (Or.inr (show 84 ≠ 69 by decide)), up_ne (Or.inr (show 85 ≠ 69 by decide))]
  have fin : ∀ (x : Int32) (C4 : IM), f_Cmp_answerUnlike n (nI T1) (nI T2) C3 = some (x, C4) → (∀ k, k ≠ 43 → k ≠ 46 → C4 k = C3 k) → (if (if R2 MO 82 = 3 then 1 else 0 : Int32) = (if R3 MO 82 = 3 then 1 else 0 : Int32) then (if (if R2 MO 82 = 3 then 1 else 0 : Int32) = 0 then (if R3 MO 83 = R2 MO 83 then (if R3 MO 84 = R2 MO 84 then (if R3 MO 85 = R2 MO 85 then 0 else 1) else 1) else 1) else 0) else 1 : Int32) = x → ∃ x C2 C3 C4 R4, f_Wrk_workOut n 42 p (nI kd) m C = some C2 ∧ f_Wrk_workOut n 45 48 (nI kd) m C2 = some C3 ∧ f_Cmp_answerUnlike n (C3 (p + 6) kd) (C3 (48 + 6) kd) C3 = some (x, C4) ∧ f_Mod_answerUnlike n (nI qa) (nI (301 + qb)) R = some (x, R4) ∧ (∀ k, ¬ (42 ≤ k ∧ k ≤ 47) → C4 k = C k) ∧ (∀ k, k ≠ MO → k ≠ 140 → R4 k = R k) ∧ (∀ j, ¬ (82 ≤ j ∧ j ≤ 86) → j ≠ 68 → j ≠ 69 → R4 MO j = R MO j) ∧ R4 MO 69 = 0 := by
    intro x C4 y1 y2 y3
    refine ⟨x, C2, C3, C4, up R3 MO 69 0, f1, f3, by rw [t1, t2]; exact y1, by rw [rx, y3], fun k z => by rw [y2 k (by omega) (by omega), c3b k (by omega), c2b k (by omega)], fun k z1 z2 => by rw [fu z1, k2 k z1 z2, r2b k z1 z2], fun j z1 z2 z3 => by rw [up_ne (Or.inr z3), k3 j z1 z2, g3 j z1 z2, r1m j z3], up_self⟩
  have o1 : (C2 43 1 = 0 ∧ R2 MO 82 = 0) ∨ (C2 43 1 = 3 ∧ R2 MO 82 = 3) := by
    rcases out with ⟨a, b, -⟩ | ⟨a, b, -⟩ | ⟨a, -⟩
    · exact Or.inl ⟨a, b⟩
    · exact Or.inr ⟨a, b⟩
    · exact absurd a a15
  have o2 : (C3 46 1 = 0 ∧ R3 MO 82 = 0) ∨ (C3 46 1 = 3 ∧ R3 MO 82 = 3) := by
    rcases out3 with ⟨a, b, -⟩ | ⟨a, b, -⟩ | ⟨a, -⟩
    · exact Or.inl ⟨a, b⟩
    · exact Or.inr ⟨a, b⟩
    · exact absurd a b15
  have au : f_Cmp_answerUnlike n (nI T1) (nI T2) C3 = if C2 43 1 = C3 46 1 then (if C2 43 1 = 0 then (Option.bind (f_Cmp_fillUntold 43 (nI T1) C3) fun v3 => Option.bind (f_Cmp_fillUntold 46 (nI T2) v3) fun v5 => l_Cmp_answerUnlike_61 n n 2 v5) else (some (0, C3))) else (some (1, C3)) := by
    rw [f_Cmp_answerUnlike]
    show (if C3 43 1 = C3 46 1 then (if C3 43 1 = 0 then _ else _) else _) = _
    rw [x43 1]
  have q0 : (if (0 : Int32) = 3 then (1 : Int32) else 0) = 0 := rfl
  have q3 : (if (3 : Int32) = 3 then (1 : Int32) else 0) = 1 := rfl
  rcases o1 with ⟨p1, p2⟩ | ⟨p1, p2⟩ <;> rcases o2 with ⟨s1, s2⟩ | ⟨s1, s2⟩
  · -- both allow
    obtain ⟨D1, h1, h2, h3, h4, h5⟩ := fut (x0 := 43) (T := T1) (C := C3) rfl hT1
    obtain ⟨D2, j1, j2, j3, j4, j5⟩ := fut (x0 := 46) (T := T2) (C := D1) rfl hT2
    obtain ⟨g, hg⟩ : ∃ g, n = g + 4 := ⟨n - 4, by omega⟩
    have al : l_Cmp_answerUnlike_61 n n 2 D2 = some (if D2 43 2 = D2 46 2 then (if D2 43 3 = D2 46 3 then (if D2 43 4 = D2 46 4 then 0 else 1) else 1) else 1, D2) := by
      have := au_l (n := n) (f := g) (C := D2)
      rw [← hg] at this
      exact this
    obtain ⟨-, -, -, o4⟩ | ⟨o, -⟩ | ⟨o, -⟩ := out
    rotate_left
    · have o' : C2 43 1 = 3 := o
      rw [p1] at o'; exact absurd o' (by decide)
    · exact absurd o a15
    obtain ⟨-, -, -, o6⟩ | ⟨o, -⟩ | ⟨o, -⟩ := out3
    rotate_left
    · have o' : C3 46 1 = 3 := o
      rw [s1] at o'; exact absurd o' (by decide)
    · exact absurd o b15
    have d43 : ∀ j, D2 43 j = D1 43 j := fun j => by rw [j2 43 (by decide)]
    have d46 : ∀ j, D1 46 j = C3 46 j := fun j => by rw [h2 46 (by decide)]
    -- the class's three cells are the reference's
    have cA : D2 43 2 = R2 MO 83 ∧ D2 43 3 = R2 MO 84 ∧ D2 43 4 = R2 MO 85 := by
      have a0 : C2 43 10 = cv 0 := by have := fc.2.2 10 (Or.inr (by decide)); rw [show C2 43 10 = C 43 10 from this]; exact h43 0 (by decide)
      have a8 : C2 43 18 = cv 8 := by have := fc.2.2 18 (Or.inr (by decide)); rw [show C2 43 18 = C 43 18 from this]; exact h43 8 (by decide)
      refine ⟨?_, ?_, ?_⟩
      · rw [d43, h3 2 (by decide) (by decide), x43]
        by_cases z : aTe A qa 51
        · exact (o4 0 (by decide)).1 z
        · have := (o4 0 (by decide)).2 z
          rw [show C2 43 2 = 0 from this.1]; exact this.2.symm
      · rw [d43, h4, x43, x43]
        by_cases z : aTe A qa 52
        · rw [if_pos ((bT1 1 (by decide)).mpr z)]; exact (o4 1 (by decide)).1 z
        · rw [if_neg (fun y => z ((bT1 1 (by decide)).mp y)), a0]; exact ((o4 1 (by decide)).2 z).2.symm
      · rw [d43, h5, x43, x43]
        by_cases z : aTe A qa 53
        · rw [if_pos ((bT1 2 (by decide)).mpr z)]; exact (o4 2 (by decide)).1 z
        · rw [if_neg (fun y => z ((bT1 2 (by decide)).mp y)), a8]; exact ((o4 2 (by decide)).2 z).2.symm
    have cB : D2 46 2 = R3 MO 83 ∧ D2 46 3 = R3 MO 84 ∧ D2 46 4 = R3 MO 85 := by
      have a0 : C3 46 10 = cv 0 := by have := fc3.2.2 10 (Or.inr (by decide)); rw [show C3 46 10 = C2 46 10 from this, c2b 46 (by decide)]; exact h46 0 (by decide)
      have a8 : C3 46 18 = cv 8 := by have := fc3.2.2 18 (Or.inr (by decide)); rw [show C3 46 18 = C2 46 18 from this, c2b 46 (by decide)]; exact h46 8 (by decide)
      refine ⟨?_, ?_, ?_⟩
      · rw [j3 2 (by decide) (by decide), d46]
        by_cases z : aTe B qb 51
        · exact (o6 0 (by decide)).1 z
        · have := (o6 0 (by decide)).2 z
          rw [show C3 46 2 = 0 from this.1]; exact this.2.symm
      · rw [j4, d46, d46]
        by_cases z : aTe B qb 52
        · rw [if_pos ((bT2 1 (by decide)).mpr z)]; exact (o6 1 (by decide)).1 z
        · rw [if_neg (fun y => z ((bT2 1 (by decide)).mp y)), a0]; exact ((o6 1 (by decide)).2 z).2.symm
      · rw [j5, d46, d46]
        by_cases z : aTe B qb 53
        · rw [if_pos ((bT2 2 (by decide)).mpr z)]; exact (o6 2 (by decide)).1 z
        · rw [if_neg (fun y => z ((bT2 2 (by decide)).mp y)), a8]; exact ((o6 2 (by decide)).2 z).2.symm
    refine fin (if D2 43 2 = D2 46 2 then (if D2 43 3 = D2 46 3 then (if D2 43 4 = D2 46 4 then 0 else 1) else 1) else 1) D2 ?_ (fun k z1 z2 => by rw [j2 k z2, h2 k z1]) ?_
    · rw [au, p1, s1, if_pos rfl, if_pos rfl, h1, Option.bind_some, j1, Option.bind_some, al]
    · rw [p2, s2, q0, if_pos rfl, if_pos rfl, cA.1, cA.2.1, cA.2.2, cB.1, cB.2.1, cB.2.2]
      by_cases z1 : R2 MO 83 = R3 MO 83
      · rw [if_pos z1.symm, if_pos z1]
        by_cases z2 : R2 MO 84 = R3 MO 84
        · rw [if_pos z2.symm, if_pos z2]
          by_cases z3 : R2 MO 85 = R3 MO 85
          · rw [if_pos z3.symm, if_pos z3]
          · rw [if_neg (fun y => z3 y.symm), if_neg z3]
        · rw [if_neg (fun y => z2 y.symm), if_neg z2]
      · rw [if_neg (fun y => z1 y.symm), if_neg z1]
  · refine fin 1 C3 (by rw [au, p1, s1, if_neg (by decide)]) (fun _ _ _ => rfl) ?_
    rw [p2, s2, q0, q3, if_neg (by decide)]
  · refine fin 1 C3 (by rw [au, p1, s1, if_neg (by decide)]) (fun _ _ _ => rfl) ?_
    rw [p2, s2, q3, q0, if_neg (by decide)]
  · refine fin 0 C3 (by rw [au, p1, s1, if_pos rfl, if_neg (by decide)]) (fun _ _ _ => rfl) ?_
    rw [p2, s2, q3, if_pos rfl, if_neg (by decide)]
