/-! a rule is asked: the three ways -/
theorem ask_1 {n m p kd : Nat} {C C' : IM} (k4 : C 35 4 = nI kd) (hm : f_Pol_mayBeCompared p (nI kd) C = some 0) (hw : f_Wrk_workOut n 36 p (nI kd) m (up C 35 11 1) = some C') : f_Stp_ask n m p C = some C' := by
  rw [f_Stp_ask, k4, hm, Option.bind_some, if_pos rfl, lt, up_ne (Or.inr (by decide)), k4, hw, Option.bind_some]
theorem ask_r {A : AP} {n q kd : Nat} {R : IM} (wf : WF A) (pr : PR A 0 0 0 0 R) (hq : q < aNr A) (hk : kd < 22) (e : aRo A kd = nI q) (k75 : R MO 75 = nI kd) : f_Mod_ask n R = if (aNm A q) >>> ((15 : Int32) &&& 31) = 0 then l_Mod_ask_45 n n (nI q) (nI 0) (up (up R MO 67 1) A_question 0 (nI kd)) else Option.bind (f_Mod_rule n (nI q) (up R MO 67 1)) fun v6 => some v6 := by
  have w1 := wf.1
  have e1 := (pr.1 kd hk).2 q hq e
  have e2 := (pr.2.1 q hq).2.2
  simp only [Nat.zero_add] at e1 e2
  rw [f_Mod_ask, k75, chk_i (nki (by omega) (by decide)), nkc (by omega), e1, lt, chk_i (nki (by omega) (by decide)), nkc (by omega)]
  simp only [lt]
  rw [up_o (show A_named ≠ MO by decide), e2, up_ne (Or.inr (show 75 ≠ 67 by decide)), k75]
  rfl
set_option maxHeartbeats 1000000 in
theorem ask_n {A : AP} {p q n m kd : Nat} {tl : Int32 → Nat → Prop} {vl : Nat → Int32} {dt dw : Int32} {C R : IM} (as : AS A p q n m kd tl vl dt dw C R) (hb : ¬ (aNm A q).toInt < 32768) : ∃ C' R', f_Stp_ask n m p C = some C' ∧ f_Mod_ask n R = some R' ∧ AK A q m tl (dfl dt (R MO 43) dw) C R C' R' := by
  obtain ⟨hn, hm, hp, wf, pc, pr, hq, hk, e, k4, k75, h69, hnv, r0, rq, h1, h2, ow, q2, q5, q6, q8, qc, htl, hat⟩ := id as
  have w := Wm_of (Or.inl rfl : isWrk 36) hm
  have w' := w
  unfold Wm at w'
  have m35 : m + 19 ≤ 35 ∨ 35 < m := by rcases hm with rfl | rfl | rfl <;> omega
  have g0 := (wf.2.2.2.2.2.2.2.2.1 q hq).1
  obtain ⟨C', R', f1, f2, fc, fr, pp, np, dd, out⟩ := ask_w (C := up C 35 11 1) (R := up R MO 67 1) as (fun b q1 _ _ => fu q1) (up_o (by omega)) (fun b q1 _ _ => fu q1) (fun j _ _ q3 => up_ne (Or.inr q3))
  have cb : ∀ b, ¬ (35 ≤ b ∧ b ≤ 38) → ¬ (m + 11 ≤ b ∧ b ≤ m + 13) → C' b = C b := fun b z1 z2 => by rw [fc.1 b (by omega) (by omega) (by omega) (by omega) (by omega) (by omega), fu (by omega)]
  have c35 : ∀ j, C' 35 j = up C 35 11 1 35 j := fun j => by rw [fc.1 35 (by decide) (by decide) (by decide) (by omega) (by omega) (by omega)]
  have rb : ∀ b, b ≠ MO → ¬ (129 ≤ b ∧ b ≤ 130) → b ≠ 140 → R' b = R b := fun b z1 z2 z3 => by rw [fr.1 b z1 z3 (by show b ≠ 129; omega) (by show b ≠ 130; omega), fu z1]
  have q2' : Q2 (up C 35 11 1) m (up R MO 67 1) := by
    unfold Q2 at q2 ⊢
    rw [fu (show m ≠ 35 by omega), fu (show m + 13 ≠ 35 by omega), up_ne (Or.inr (show 34 ≠ 67 by decide)), up_ne (Or.inr (show 44 ≠ 67 by decide)), up_ne (Or.inr (show 48 ≠ 67 by decide)), up_ne (Or.inr (show 51 ≠ 67 by decide)), up_ne (Or.inr (show 53 ≠ 67 by decide)), up_ne (Or.inr (show 54 ≠ 67 by decide)), up_ne (Or.inr (show 45 ≠ 67 by decide)), up_ne (Or.inr (show 52 ≠ 67 by decide)), up_ne (Or.inr (show 55 ≠ 67 by decide))]
    exact q2
  refine ⟨C', R', ask_1 k4 (by rw [mbc wf pc hk hq e, if_neg hb]) f1, ?_, fun b z1 z2 => cb b z1 (by omega), fun j hj => by rw [c35, up_ne (Or.inr hj)], fun j _ _ z3 => by rw [fc.2.1 j z3, up_o (by omega)], fun b z1 z2 _ z4 => rb b z1 (by omega) z4, fun j hj => ?_, by rw [c35, up_self]; decide, ?_, Q2_ev w q2' fc fr pp, (PP_Q5 pp).1, Q6_c q6 (cb _ (by omega) (by omega)) (rb _ (by decide) (by decide) (by decide)), Q8_c q8 (by rw [cb (m + 15) (by omega) (by omega)]) (by rw [cb (m + 15) (by omega) (by omega)]) (cb _ (by omega) (by omega)) (rb _ (by decide) (by decide) (by decide)) (rb _ (by decide) (by decide) (by decide)) (by rw [fr.2 58 (by decide) (by decide) (by decide), up_ne (Or.inr (by decide))]) (by rw [fr.2 59 (by decide) (by decide) (by decide), up_ne (Or.inr (by decide))]), ?_, dd, ?_⟩
  · rw [ask_r wf pr hq hk e k75, if_neg (fun z => hb ((sh15 g0).mp z)), f2, Option.bind_some]
  · have hj' : j ∉ noJ := hj
    unfold noJ at hj'
    simp only [List.mem_cons, List.not_mem_nil, or_false, not_or] at hj'
    rw [fr.2 j (by omega) (by omega) (by omega), up_ne (Or.inr (by omega))]
  · rw [c35, up_self, fr.2 67 (by decide) (by decide) (by decide), up_self]
  · unfold QC at qc ⊢
    rw [cb (m + 15) (by omega) (by omega), cb (m + 17) (by omega) (by omega)]
    exact qc
  · rcases out with ⟨o1, o2, o3, o4⟩ | ⟨o1, o2, o3, s, o4, o5, o6, o7⟩ | ⟨o0, o1, o2, o3⟩
    · exact Or.inl ⟨o1, o2, o3, fun j hj => (o4 j hj).1⟩
    · refine Or.inr (Or.inl ⟨o1, o2, ?_⟩)
      have x2 := sfl wf (show q + 1 ≤ aNr A by omega)
      have o6' : C' 37 5 = aSa A s := o6
      rw [o6', o7 rfl, fu (by decide), hat s (by omega)]
    · exact Or.inr (Or.inr ⟨o1, o2, o3⟩)
/-- both sides after the question was counted, before the cache is looked through -/
theorem ask_q {A : AP} {p q n m kd : Nat} {tl : Int32 → Nat → Prop} {vl : Nat → Int32} {dt dw : Int32} {C R : IM} (as : AS A p q n m kd tl vl dt dw C R) (hb : (aNm A q).toInt < 32768) : ∃ C2 R4, (f_Stp_ask n m p C = Option.bind (f_Rng_rowLike n (m + 15) 37 10 C2) fun v7 => if v7 = ((-1) : Int32) then (Option.bind (f_Wrk_workOut n 36 p (nI kd) m (up C2 35 11 2)) fun v17 => f_Rng_add (m + 15) 37 v17) else (Option.bind (f_Stp_addCount m 2 (up (up C2 35 11 3) (m + 13) 4 (C2 (m + 13) 4 + 1))) fun v12 => f_Rng_fetch (m + 15) v7 37 v12)) ∧ f_Mod_ask n R = l_Mod_ask_124 n n (nI q) (-1) (nI 0) R4 ∧ (∀ b, b ≠ m + 13 → b ≠ m + 14 → C2 b = C b) ∧ (∀ j, j ≠ 3 → C2 (m + 13) j = C (m + 13) j) ∧ C2 (m + 13) 3 = R4 MO 53 ∧ (∀ b, b ≠ MO → b ≠ 133 → b ≠ 135 → R4 b = R b) ∧ (∀ j, j ≠ 53 → j ≠ 67 → R4 MO j = R MO j) ∧ R4 MO 67 = 2 ∧ Q6 C2 m R4 ∧ R4 133 0 = nI kd ∧ ∀ j, j < 15 → C2 37 (10 + j) = R4 133 (1 + j) := by
  obtain ⟨hn, hm, hp, wf, pc, pr, hq, hk, e, k4, k75, h69, hnv, r0, rq, h1, h2, ow, q2, q5, q6, q8, qc, htl, hat⟩ := id as
  have w1 := wf.1
  have m35 : m + 19 ≤ 35 ∨ 38 < m := by rcases hm with rfl | rfl | rfl <;> omega
  have g0 := (wf.2.2.2.2.2.2.2.2.1 q hq).1
  obtain ⟨R2, hR2⟩ : ∃ z, z = up (up R MO 67 1) A_question 0 (nI kd) := ⟨_, rfl⟩
  have b2 : ∀ b, b ≠ MO → b ≠ 133 → R2 b = R b := fun b z1 z2 => by rw [hR2, fu z2, fu z1]
  have m2 : ∀ j, j ≠ 67 → R2 MO j = R MO j := fun j hj => by rw [hR2, up_o (by decide), up_ne (Or.inr hj)]
  have en : R2 A_named q = aNm A q := by
    rw [b2 A_named (by decide) (by decide)]
    have := (pr.2.1 q hq).2.2
    rwa [Nat.zero_add] at this
  obtain ⟨R3, e3, a1, a2, a3⟩ := aq_l (n := n) (x := q) (nm := aNm A q) (R0 := R2) (vl := vl) (by omega) en (fun k hk => by rw [nv_g (R0 := R) (fun b z1 z2 z3 => b2 b z1 z2) (fun j _ _ z3 => m2 j z3)]; exact hnv k hk) 15 n 0 R2 (by omega) (by omega) (fun _ _ => rfl)
  have m3 : ∀ j, R3 MO j = R2 MO j := fun j => by rw [a1 MO (by decide)]
  have e4 : (4 : Int32) * nI kd + 1 = nI (4 * kd + 1) := by rw [show (4 : Int32) = nI 4 from rfl, nml]; exact nk1
  obtain ⟨R4, hR4⟩ : ∃ z, z = up (up (up R3 MO 53 (R3 MO 53 + 1)) A_counts (4 * kd + 1) (R3 A_counts (4 * kd + 1) + 1)) MO 67 2 := ⟨_, rfl⟩
  have b4 : ∀ b, b ≠ MO → b ≠ 135 → R4 b = R3 b := fun b z1 z2 => by rw [hR4, fu z1, fu z2, fu z1]
  have m4 : ∀ j, j ≠ 53 → j ≠ 67 → R4 MO j = R3 MO j := fun j z1 z2 => by rw [hR4, up_ne (Or.inr z2), up_o (by decide), up_ne (Or.inr z1)]
  obtain ⟨C1, hC1⟩ : ∃ z, z = up C (m + 13) 3 (C (m + 13) 3 + 1) := ⟨_, rfl⟩
  obtain ⟨C2, hC2⟩ : ∃ z, z = up C1 (m + 14) (4 * kd + 1) (C1 (m + 14) (4 * kd + 1) + 1) := ⟨_, rfl⟩
  have cb : ∀ b, b ≠ m + 13 → b ≠ m + 14 → C2 b = C b := fun b z1 z2 => by rw [hC2, fu z2, hC1, fu z1]
  have q6' : Q6 C2 m R4 := by
    have h1 : Q6 C1 m (up R3 MO 53 (R3 MO 53 + 1)) := Q6_c q6 (by rw [hC1, fu (by omega)]) (by rw [fu (by decide), a1 _ (by decide), b2 _ (by decide) (by decide)])
    have h2 := Q6_i (k := 4 * kd + 1) (by omega) h1
    rw [← hC2, up_o (show A_counts ≠ MO by decide)] at h2
    refine Q6_c h2 rfl ?_
    rw [hR4, fu (by decide)]
  refine ⟨C2, R4, ?_, ?_, cb, fun j hj => ?_, ?_, fun b z1 z2 z3 => ?_, fun j z1 z2 => ?_, ?_, q6', ?_, fun j hj => ?_⟩
  · have k41 : C1 35 4 = nI kd := by rw [hC1, up_o (by omega)]; exact k4
    have k42 : C2 35 4 = nI kd := by rw [cb 35 (by omega) (by omega)]; exact k4
    have ac : f_Stp_addCount m 1 C1 = some C2 := by rw [hC2]; exact adc (w := 1) hk (by decide) k41
    have hC1' : up C (m + 13) (3 : Int32).toNatClampNeg (C (m + 13) (3 : Int32).toNatClampNeg + 1) = C1 := hC1.symm
    rw [f_Stp_ask, k4, mbc wf pc hk hq e, if_pos hb, Option.bind_some, if_neg (by decide), lt, hC1', ac, Option.bind_some]
    congr 1
    funext v7
    by_cases z : v7 = -1
    · rw [if_pos z, if_pos z, lt, up_ne (Or.inr (by decide)), k42]
      congr 1
      funext v17
      cases f_Rng_add (m + 15) 37 v17 <;> rfl
    · rw [if_neg z, if_neg z]
      simp only [lt]
      rw [up_o (show m + 13 ≠ 35 by omega)]
      show (Option.bind (f_Stp_addCount m 2 (up (up C2 35 11 3) (m + 13) 4 (C2 (m + 13) 4 + 1))) fun v12 => Option.bind (f_Rng_fetch (m + 15) v7 37 v12) fun v14 => b_Stp_ask_132 n m p v14) = _
      congr 1
      funext v12
      cases f_Rng_fetch (m + 15) v7 37 v12 <;> rfl
  · rw [ask_r wf pr hq hk e k75, if_pos ((sh15 g0).mpr hb), ← hR2, e3, l_Mod_ask_45, if_pos (by decide)]
    simp only [lt]
    rw [up_ne (Or.inr (show 75 ≠ 53 by decide)), m3 75, m2 75 (by decide), k75, e4, chk_i (nki (by omega) (by decide)), nkc (by omega), up_o (show A_counts ≠ MO by decide), ← hR4]
    rfl
  · rw [hC2, up_o (by omega), hC1, up_ne (Or.inr hj)]
  · rw [hC2, up_o (by omega), hC1, up_self, hR4, up_ne (Or.inr (by decide)), up_o (by decide), up_self, m3 53, m2 53 (by decide), q2.2.2.2.2.1]
  · rw [b4 b z1 z3, a1 b z2, b2 b z1 z2]
  · rw [m4 j z1 z2, m3, m2 j z2]
  · rw [hR4, up_self]
  · rw [b4 133 (by decide) (by decide), a3 0 (by omega), hR2]
    exact up_self
  · rw [b4 133 (by decide) (by decide), cb 37 (by omega) (by omega)]
    by_cases z : tbi (aNm A q) j
    · rw [(rq j hj).1 z, (a2 j (by omega) hj).1 z]
    · rw [(rq j hj).2 z, (a2 j (by omega) hj).2 z]
