/-! one code of a rule, on both sides: all codes -/
theorem polap {p W m j : Nat} (hp : isPol p) (hW : isWrk W) (hm : isMch m) (hj : j < 7) : p + j ≠ W ∧ p + j ≠ W + 1 ∧ p + j ≠ W + 2 ∧ (p + j < m ∨ m + 19 ≤ p + j) := by
  rcases hp with rfl | rfl | rfl <;> rcases hW with rfl | rfl | rfl <;> rcases hm with rfl | rfl | rfl <;> omega
theorem FC_pol {p W m j : Nat} {C0 C : IM} (hp : isPol p) (hW : isWrk W) (hm : isMch m) (hj : j < 7) (h : FC W m C0 C) : C (p + j) = C0 (p + j) := by
  obtain ⟨a, -, b, c⟩ := polap hp hW hm hj
  exact h.1 _ a b (by omega) (by omega) (by omega)
theorem FC_1 {W m : Nat} {C0 C : IM} (w : Wm W m) (h : FC W m C0 C) : C (W + 1) = C0 (W + 1) := by
  unfold Wm at w
  exact h.1 _ (by omega) (by omega) (by omega) (by omega) (by omega)
theorem ES_pair {W m h : Nat} {nm v : Int32} {C0 R0 C R D R1 : IM} (w : Wm W m) (tb15 : tbi nm 15) (e : ES W m nm C0 R0 (h + 2) C R) (d1 : ∀ b, b ≠ m + 11 → b ≠ m + 12 → b ≠ m + 13 → D b = up C W 2 (nI h) b) (d2 : ∀ j, j ≠ 7 → D (m + 13) j = up C W 2 (nI h) (m + 13) j) (r1 : ∀ b, b ≠ MO → b ≠ A_firsts → b ≠ A_seconds → R1 b = up R MO 86 (nI (h + 1)) b) (r2 : ∀ j, j ≠ 55 → R1 MO j = up R MO 86 (nI (h + 1)) MO j) (pp : PP m D R1) : ES W m nm C0 R0 (h + 1) (up (up D (W + 2) h v) W 2 (nI (h + 1))) (up R1 A_stack h v) := by
  obtain ⟨e1, e2, e3, e4, e5, e6, e7⟩ := e
  have w' := w
  unfold Wm at w'
  have fc : FC W m C0 D := by
    obtain ⟨f1, f2, f3⟩ := e4
    refine ⟨fun b q1 q2 q3 q4 q5 => ?_, fun j hj => ?_, fun j hj => ?_⟩
    · rw [d1 b q3 q4 q5, fu q1]; exact f1 b q1 q2 q3 q4 q5
    · rw [d1 W (by omega) (by omega) (by omega), up_ne (Or.inr hj)]; exact f2 j hj
    · rw [d2 j hj, up_o (by omega)]; exact f3 j hj
  have fr : FR R0 R1 := by
    obtain ⟨f1, f2⟩ := e5
    refine ⟨fun b q1 q2 q3 q4 => ?_, fun j q1 q2 q3 => ?_⟩
    · rw [r1 b q1 q3 q4, fu q1]; exact f1 b q1 q2 q3 q4
    · rw [r2 j q2, up_ne (Or.inr q1)]; exact f2 j q1 q2 q3
  have z : ∀ b, b ≠ W → b ≠ W + 2 → up (up D (W + 2) h v) W 2 (nI (h + 1)) b = D b := fun b q1 q2 => by rw [fu q1, fu q2]
  refine ⟨up_self, ?_, fun j hj => ?_, FC_up w (FC_st w fc), FR_st fr, PP_c (z _ (by omega) (by omega)) (z _ (by omega) (by omega)) (z _ (by omega) (by omega)) (fu (by decide)) (fu (by decide)) (up_o (by decide)) pp, fun q => absurd tb15 q⟩
  · rw [up_o (by decide), r2 86 (by decide), up_self]
  · rw [up_o (show W + 2 ≠ W by omega)]
    by_cases q : j = h
    · rw [q, up_self, up_self]
    · rw [up_ne (Or.inr q), up_ne (Or.inr q), d1 (W + 2) (by omega) (by omega) (by omega), up_o (by omega), r1 A_stack (by decide) (by decide) (by decide), up_o (by decide)]
      exact e3 j (by omega)
/-- what a rule is worked out in: the machine and the tables, before -/
def EC (A : AP) (p q n W m ko ro so co : Nat) (C0 R0 : IM) : Prop := 1000 ≤ n ∧ isMch m ∧ isWrk W ∧ isPol p ∧ WF A ∧ PC A p C0 ∧ PR A ko ro so co R0 ∧ co ≤ 1000 ∧ q < aNr A ∧ (∀ k, k < 15 → tbi (aNm A q) k → f_Mod_nameValue (nI k) R0 = some (C0 (W + 1) (10 + k))) ∧ (∀ k, k < 96 → C0 (m + 5) k = R0 A_owners k) ∧ C0 (W + 1) 1 = 0
set_option maxHeartbeats 2000000 in
theorem estep {A : AP} {p q s n W m ko ro so co i : Nat} {dp : Nat → Nat} {C0 R0 C R : IM} (ec : EC A p q n W m ko ro so co C0 R0) (hs : s < aNs A) (hi1 : aCf A s ≤ i) (hi2 : i < aCf A (s + 1)) (sok : Sok A (aNm A q) dp (aCf A (s + 1)) i) (es : ES W m (aNm A q) C0 R0 (dp i) C R) (hr : R MO 82 = 0) : (∃ k C' R', i < k ∧ k ≤ aCf A (s + 1) ∧ ES W m (aNm A q) C0 R0 (dp k) C' R' ∧ R' MO 82 = 0 ∧ (∀ f stop, aCf A (s + 1) + s ≤ stop → stop ≤ 900 → l_Wrk_workOut_46 n W p m (f + 1) (nI stop) (nI (i + s)) C = l_Wrk_workOut_46 n W p m f (nI stop) (nI (k + s)) C') ∧ ∀ f, l_Mod_work_7 n (f + 1) (nI (co + aCf A (s + 1))) (nI (co + i)) R = l_Mod_work_7 n f (nI (co + aCf A (s + 1))) (nI (co + k)) R') ∨ (tbi (aNm A q) 15 ∧ ∃ C' R' v, (∀ f stop, aCf A (s + 1) + s ≤ stop → stop ≤ 900 → l_Wrk_workOut_46 n W p m (f + 1) (nI stop) (nI (i + s)) C = some C') ∧ (∀ f, l_Mod_work_7 n (f + 2) (nI (co + aCf A (s + 1))) (nI (co + i)) R = some (v, R')) ∧ (∀ b, b ≠ W → b ≠ W + 1 → b ≠ W + 2 → C' b = C b) ∧ C' (W + 1) 1 = 4 ∧ C' (W + 1) 5 = -1 ∧ (∀ j, 2 ≤ j → j < 5 → C' (W + 1) j = 0) ∧ (∀ j, j < 1 ∨ 10 ≤ j → C' (W + 1) j = C (W + 1) j) ∧ (∀ b, b ≠ MO → b ≠ A_stack → R' b = R b) ∧ (∀ j, j ≠ 86 → j ≠ 82 → R' MO j = R MO j) ∧ R' MO 82 = 4) := by
  obtain ⟨hn, hm, hW, hp, wf, pc, pr, hco, hq, hN, hO, hc⟩ := ec
  have w := Wm_of hW hm
  have w' := w
  unfold Wm at w'
  have b1 := wf.2.2.2.2.2.2.1
  have b2 := cfl wf (show s + 1 ≤ aNs A by omega)
  obtain ⟨e1, e2, e3, e4, e5, e6, e7⟩ := id es
  obtain ⟨cs, cx⟩ := pc.2.2 s hs i hi1 hi2
  rw [← FC_pol hp hW hm (show 1 < 7 by decide) e4] at cs
  rw [← FC_pol hp hW hm (show 2 < 7 by decide) e4] at cx
  obtain ⟨rc, rvj, rvn⟩ := pr.2.2.2 i (by omega)
  rw [← e5.1 A_code0 (by decide) (by decide) (by decide) (by decide)] at rc
  rw [← e5.1 A_codeValue (by decide) (by decide) (by decide) (by decide)] at rvj rvn
  have c1 : C (W + 1) 1 = 0 := by rw [FC_1 w e4]; exact hc
  have ow : ∀ k, k < 96 → C (m + 5) k = R A_owners k := fun k hk => by
    rw [e4.1 (m + 5) (by omega) (by omega) (by omega) (by omega) (by omega), e5.1 A_owners (by decide) (by decide) (by decide) (by decide)]
    exact hO k hk
  have ki : co + i < co + aCf A (s + 1) := by omega
  have kg : co + aCf A (s + 1) ≤ 2000 := by omega
  have sw : i + s + 1 = i + 1 + s := by omega
  obtain ⟨hd, ⟨c, hd1⟩ | ⟨k, hk, c, tk, hd1⟩ | ⟨c, hd0, hd1⟩ | ⟨c, hd0, hd1⟩ | ⟨c, t15, hd0, hd1⟩ | ⟨k, c, cv, g1, g2, hd1, hd2⟩ | ⟨k, c, cv, g1, g2, hd2⟩⟩ := sok
  · -- a number
    rw [c] at cs cx rc rvn
    have rv := rvn (by unfold isJ; decide)
    refine Or.inl ⟨i + 1, _, _, by omega, by omega, by rw [hd1]; exact ES_push (v := aCv A i) w es, by rw [up_ne (Or.inr (by decide)), up_o (by decide)]; exact hr, fun f stop h1 h2 => ?_, fun f => lr_const ki kg hr rc rv e2 (by omega)⟩
    rw [lc_val (st := 101) (ex := aCv A i) (v := aCv A i) (C1 := C) cs cx (by omega) h2 (by decide) (by decide) (by decide) rfl (push_f e1 (by omega)) (fun z => absurd z.1 (by decide)) (by rw [up_o (by omega), up_o (by omega)]; exact c1), sw]
  · -- a name
    obtain ⟨m1, m2, m3, m4, m5, m6, m7, m8, m9, m10⟩ := nm_k k hk
    rw [c] at cs cx rc
    have cx' : C (p + 2) (i + s) = nI k := by rw [cx, trX, if_neg m2, if_pos m3, m4]
    have nv : f_Mod_nameValue (nI (500 + k) - 500) R = some (C0 (W + 1) (10 + k)) := by rw [m4, nv_c e5]; exact hN k hk tk
    have vo : f_Wrk_valueOf n W 103 (nI k) m C = some (C0 (W + 1) (10 + k), C) := by
      show (if nI k < 0 then (b_Wrk_valueOf_100 n W m C) else (if (15 : Int32) ≤ nI k then (b_Wrk_valueOf_100 n W m C) else (chk (inb (10 + nI k) 25) <| b_Wrk_valueOf_101 n W m (C (W + 1) (10 + nI k : Int32).toNatClampNeg) C))) = _
      rw [if_neg m7, if_neg m8, m9, chk_i m10, b_Wrk_valueOf_101, nkc (by omega), FC_1 w e4]
    refine Or.inl ⟨i + 1, _, _, by omega, by omega, by rw [hd1]; exact ES_push (v := C0 (W + 1) (10 + k)) w es, by rw [up_ne (Or.inr (by decide)), up_o (by decide)]; exact hr, fun f stop h1 h2 => ?_, fun f => lr_name ki kg hr rc m2 m5 nv e2 (by omega)⟩
    rw [lc_val (st := 103) (ex := nI k) (cs.trans m1) cx' (by omega) h2 (by decide) (by decide) (by decide) vo (push_f e1 (by omega)) (fun z => absurd z.1 (by decide)) (by rw [up_o (by omega), up_o (by omega)]; exact c1), sw]
  · -- one value
    obtain ⟨h, hh⟩ : ∃ h, dp i = h + 1 := ⟨dp i - 1, by omega⟩
    rw [hh] at e1 e2 e3 es
    obtain ⟨v, v1, v2, v3, v4, v5, v6, v7, v8, v9, v10, v11⟩ := one_eq (ex := trX (aCd A i) (aCv A i) s) hn hm w e1 (by omega) (e3 h (by omega)) e6 ow c
    have E := ES_push (v := v) w (ES_down (k := h) w (by omega) es)
    have er : up (up (up R MO 86 (nI h)) A_stack h v) MO 86 (nI (h + 1)) = up R A_stack h v := by
      rw [up_sw (show A_stack ≠ MO by decide), up_up, up_id e2]
    rw [er] at E
    refine Or.inl ⟨i + 1, _, _, by omega, by omega, by rw [hd1, hh]; exact E, by rw [up_o (by decide)]; exact hr, fun f stop h1 h2 => ?_, fun f => lr_sig ki kg hr rc v8 v9 v10 v11 (sig_one v3 e2 (by omega) v2)⟩
    rw [lc_val cs cx (by omega) h2 v4 v5 v7 v1 (push_f up_self (by omega)) (fun z => v6 z.1) (by rw [up_o (by omega), up_o (by omega), up_o (by omega)]; exact c1), sw]
  · -- two values
    obtain ⟨h, hh⟩ : ∃ h, dp i = h + 2 := ⟨dp i - 2, by omega⟩
    rw [hh] at e1 e2 e3 es
    obtain ⟨v, v1, v2, v3, v4, v7, v8, v9, v10, v11⟩ := two_eq (n := n) (x := R A_stack h) (y := R A_stack (h + 1)) (R := R) c
    have E := ES_push (v := v) w (ES_down (k := h) w (by omega) es)
    have er : up (up (up R MO 86 (nI h)) A_stack h v) MO 86 (nI (h + 1)) = up (up R MO 86 (nI (h + 1))) A_stack h v := by
      rw [up_sw (show A_stack ≠ MO by decide), up_up]
    rw [er] at E
    have vo := vo_bin (n := n) (m := m) (ex := trX (aCd A i) (aCv A i) s) e1 (by omega) (fun z hz => v4 z (List.mem_append_left ([186, 191] : List Int32) hz)) (fun D => by rw [e3 h (by omega), e3 (h + 1) (by omega)]; exact v1 D)
    refine Or.inl ⟨i + 1, _, _, by omega, by omega, by rw [show dp (i + 1) = h + 1 by omega]; exact E, by rw [up_o (by decide), up_ne (Or.inr (by decide))]; exact hr, fun f stop h1 h2 => ?_, fun f => lr_sig ki kg hr rc v8 v9 v10 v11 (sig_two (v3 R) e2 (by omega) (v2 _))⟩
    rw [lc_val cs cx (by omega) h2 (v4 186 (by decide)) (v4 191 (by decide)) v7 vo (push_f up_self (by omega)) (fun z => v4 37 (by decide) z.1) (by rw [up_o (by omega), up_o (by omega), up_o (by omega)]; exact c1), sw]
  · -- a pair
    obtain ⟨h, hh⟩ : ∃ h, dp i = h + 2 := ⟨dp i - 2, by omega⟩
    rw [hh] at e1 e2 e3 es
    rw [c] at cs cx rc
    have p1 : f_Wrk_pop W C = some (C (W + 2) (h + 1), up C W 2 (nI (h + 1))) := pop_f (h := h + 1) e1 (by omega)
    have p2 : f_Wrk_pop W (up C W 2 (nI (h + 1))) = some (C (W + 2) h, up C W 2 (nI h)) := by
      rw [pop_f (h := h) up_self (by omega), up_o (by omega), up_up]
    have pp1 : PP m (up C W 2 (nI h)) (up R MO 86 (nI (h + 1))) := PP_c (fu (by omega)) (fu (by omega)) (fu (by omega)) (fu (by decide)) (fu (by decide)) (up_ne (Or.inr (by decide))) e6
    have vo : ∀ {v D}, f_Mch_pairWith n m (R A_stack h) (R A_stack (h + 1)) (up C W 2 (nI h)) = some (v, D) → f_Wrk_valueOf n W 37 (trX 310 (aCv A i) s) m C = some (v, D) := by
      intro v D z
      show (Option.bind (f_Wrk_pop W C) fun v24 => Option.bind (f_Wrk_pop W v24.2) fun v26 => Option.bind (f_Mch_pairWith n m v26.1 v24.1 v26.2) fun v31 => b_Wrk_valueOf_207 n W m v31.1 v31.2) = _
      rw [p1, Option.bind_some, p2, Option.bind_some, e3 h (by omega), e3 (h + 1) (by omega), z, Option.bind_some, b_Wrk_valueOf_207]
    have rs : ∀ {v D}, f_Mod_pairNumber n (R A_stack h) (R A_stack (h + 1)) (up R MO 86 (nI (h + 1))) = some (v, D) → f_Mod_signed n 310 (nI (co + i + 1)) R = some (nI (co + i + 1), up D A_stack h v) := by
      intro v D z
      refine sig_two rfl e2 (by omega) ?_
      show (Option.bind (f_Mod_pairNumber n (R A_stack h) (R A_stack (h + 1)) (up R MO 86 (nI (h + 1)))) fun v6 => some (v6.1, v6.2)) = _
      rw [z, Option.bind_some]
    rcases pw (n := n) (x := R A_stack h) (y := R A_stack (h + 1)) hn pp1 with ⟨v, D, R1, nv, f1, f2, d1, d2, r1, r2, pp⟩ | ⟨f1, f2⟩
    · have E := ES_pair (v := v) w t15 es d1 d2 r1 r2 pp
      have dW : D W 2 = nI h := by rw [d1 W (by omega) (by omega) (by omega), up_self]
      have d82 : up R1 A_stack h v MO 82 = 0 := by rw [up_o (by decide), r2 82 (by decide), up_ne (Or.inr (by decide))]; exact hr
      refine Or.inl ⟨i + 1, _, _, by omega, by omega, by rw [show dp (i + 1) = h + 1 by omega]; exact E, d82, fun f stop h1 h2 => ?_, fun f => lr_sig ki kg hr rc (by decide) (by decide) (by decide) (by decide) (rs f2)⟩
      rw [lc_val (st := 37) cs cx (by omega) h2 (by decide) (by decide) (by decide) (vo f1) (push_f dW (by omega)) (fun z => nv z.2) (by rw [up_o (by omega), up_o (by omega), d1 (W + 1) (by omega) (by omega) (by omega), up_o (by omega)]; exact c1), sw]
    · obtain ⟨D, dE, x1, x2, x3, x4, x5⟩ := enw (n := n) (W := W) (x := 4) (C := up (up (up C W 2 (nI h)) (W + 2) h (-1)) W 2 (nI (h + 1))) hn
      refine Or.inr ⟨t15, D, up (up (up R MO 86 (nI (h + 1))) MO 82 4) A_stack h 0, 0, fun f stop h1 h2 => ?_, fun f => ?_, fun b q1 q2 q3 => ?_, x2, x3, fun j q1 q2 => x4 j q1 (by omega) (by omega), fun j hj => ?_, fun b q1 q2 => ?_, fun j q1 q2 => ?_, ?_⟩
      · have e158 : b_Wrk_workOut_158 n W p m (l_Wrk_workOut_46 n W p m f) (nI stop) (nI (i + s)) 37 (trX 310 (aCv A i) s) C = some D := by
          rw [b_Wrk_workOut_158, vo f1, Option.bind_some, push_f up_self (by omega), Option.bind_some, if_pos rfl, if_pos rfl, dE, Option.bind_some, b_Wrk_workOut_193, if_neg (show ¬ D (W + 1) (1 : Int32).toNatClampNeg = 0 by show ¬ D (W + 1) 1 = 0; rw [x2]; decide)]
        have cs' : C (p + 1) (i + s) = 37 := cs
        rw [l_Wrk_workOut_46, if_neg (nk (by omega) (by omega)), chk_i (nki (by omega) (by decide)), nkc (by omega), cs', cx, if_neg (by decide), if_neg (by decide), if_pos (by decide), e158]
      · rw [show f + 2 = (f + 1) + 1 from rfl, lr_sig ki kg hr rc (by decide) (by decide) (by decide) (by decide) (rs f2)]
        have fin : b_Mod_work_186 n (up (up (up R MO 86 (nI (h + 1))) MO 82 4) A_stack h 0) = some (0, up (up (up R MO 86 (nI (h + 1))) MO 82 4) A_stack h 0) := by
          have e86 : up (up (up R MO 86 (nI (h + 1))) MO 82 4) A_stack h 0 MO 86 = nI (h + 1) := by rw [up_o (by decide), up_ne (Or.inr (by decide)), up_self]
          have e9 : nI (h + 1) - 1 = nI h := nsb (b := 1) (by omega)
          rw [b_Mod_work_186, e86, if_neg (show ¬ nI (h + 1) ≤ 0 from fun z => by have := (nle (b := 0) (by omega) (by decide)).mp z; omega), e9, chk_i (nki (by omega) (by decide)), nkc (by omega), up_self, b_Mod_work_208]
        rw [l_Mod_work_7, show up (up (up R MO 86 (nI (h + 1))) MO 82 4) A_stack h 0 MO 82 = 4 by rw [up_o (by decide), up_self]]
        by_cases z : nI (co + aCf A (s + 1)) ≤ nI (co + i + 1)
        · rw [if_pos z, fin]
        · rw [if_neg z, if_pos rfl, fin]
      · rw [x1 b q2, fu q1, fu q3, fu q1]
      · rw [x5 j hj, up_o (by omega), up_o (by omega), up_o (by omega)]
      · rw [fu q2, fu q1, fu q1]
      · rw [up_o (by decide), up_ne (Or.inr q2), up_ne (Or.inr q1)]
      · rw [up_o (by decide), up_self]
  · -- a query
    rw [c] at cs cx rc rvj
    have cx' : C (p + 2) (i + s) = nI (k + s) := by rw [cx, trX, if_neg (by decide), if_neg (by decide), if_neg (by decide), if_pos rfl, cv, nad]
    have rv := rvj (by unfold isJ; decide)
    rw [cv, nad, Nat.add_comm k co] at rv
    rw [hd1] at e1 e2 e3 es
    have E := ES_down (k := dp (i + 1)) w (by omega) es
    have x := e3 (dp (i + 1)) (by omega)
    by_cases z : R A_stack (dp (i + 1)) = 0
    · refine Or.inl ⟨k, _, _, g1, g2, by rw [hd2]; exact E, by rw [up_ne (Or.inr (by decide))]; exact hr, fun f stop h1 h2 => ?_, fun f => ?_⟩
      · rw [lc_query cs cx' (by omega) h2 (by omega) (by omega) c1 e1 (by omega), x, if_pos z]
      · rw [lr_unless ki kg hr rc rv e2 (by omega), if_pos z]
    · refine Or.inl ⟨i + 1, _, _, by omega, by omega, E, by rw [up_ne (Or.inr (by decide))]; exact hr, fun f stop h1 h2 => ?_, fun f => ?_⟩
      · rw [lc_query cs cx' (by omega) h2 (by omega) (by omega) c1 e1 (by omega), x, if_neg z, sw]
      · rw [lr_unless ki kg hr rc rv e2 (by omega), if_neg z]
        rfl
  · -- a way round
    rw [c] at cs cx rc rvj
    have cx' : C (p + 2) (i + s) = nI (k + s) := by rw [cx, trX, if_neg (by decide), if_neg (by decide), if_pos rfl, cv, nad]
    have rv := rvj (by unfold isJ; decide)
    rw [cv, nad, Nat.add_comm k co] at rv
    refine Or.inl ⟨k, C, R, g1, g2, by rw [hd2]; exact es, hr, fun f stop h1 h2 => ?_, fun f => ?_⟩
    · exact lc_skip cs cx' (by omega) h2 (by omega) (by omega) c1
    · exact lr_skip ki kg hr rc rv
