/-! a rule is asked whose answers are kept -/
theorem lk_eq {tl : Int32 → Nat → Prop} {C R C2 R4 : IM} {m kd Q : Nat} (q8 : Q8 tl C m R) (hQ : (Q : Int) < (R MO 58).toInt) (c16 : C2 (m + 16) = C (m + 16)) (r131 : R4 131 = R 131) (k0 : C2 37 0 = nI kd) (k1 : R4 133 0 = nI kd) (kq : ∀ j, j < 15 → C2 37 (10 + j) = R4 133 (1 + j)) : LkC C2 m Q ↔ LkR R4 Q := by
  obtain ⟨f0, f1, -⟩ := q8.2.2.2.2.2.2.2 Q hQ
  have r131' : R4 A_cache = R A_cache := r131
  have kq' : ∀ j, j < 15 → C2 37 (10 + j) = R4 A_question (1 + j) := kq
  have k1' : R4 A_question 0 = nI kd := k1
  refine ⟨fun ⟨a, b⟩ j hj => ?_, fun h => ⟨?_, fun j h1 h2 => ?_⟩⟩
  · rw [r131']
    by_cases z : j = 0
    · rw [z, k1', Nat.add_zero, ← f0, ← c16, a, k0]
    · obtain ⟨i, hi⟩ : ∃ i, j = 1 + i := ⟨j - 1, by omega⟩
      have := b (10 + i) (by omega) (by omega)
      rw [c16, show 25 * Q + (10 + i) = 25 * Q + 10 + i by omega, f1 i (by omega), kq' i (by omega)] at this
      rw [hi, show 16 * Q + (1 + i) = 16 * Q + 1 + i by omega]
      exact this
  · have := h 0 (by decide)
    rw [r131', Nat.add_zero, ← f0, k1'] at this
    rw [c16, this, k0]
  · obtain ⟨i, hi⟩ : ∃ i, j = 10 + i := ⟨j - 10, by omega⟩
    have := h (1 + i) (by omega)
    rw [r131', show 16 * Q + (1 + i) = 16 * Q + 1 + i by omega, ← f1 i (by omega)] at this
    rw [hi, c16, show 25 * Q + (10 + i) = 25 * Q + 10 + i by omega, this, kq' i (by omega)]
theorem tel_c {A : AP} {n q w : Nat} {R R' : IM} (wf : WF A) (pr : PR A 0 0 0 0 R) (hb : ∀ b, 106 ≤ b → b ≤ 115 → R' b = R b) (hn : 1000 ≤ n) (hq : q < aNr A) : (aTe A q w → f_Mod_tells n (nI q) (nI w) R' = some 1) ∧ (¬ aTe A q w → f_Mod_tells n (nI q) (nI w) R' = some 0) := by
  have := tel (n := n) (w := w) wf (PR_c (hb _ (by decide) (by decide)) (hb _ (by decide) (by decide)) (hb _ (by decide) (by decide)) (hb _ (by decide) (by decide)) (hb _ (by decide) (by decide)) (hb _ (by decide) (by decide)) (hb _ (by decide) (by decide)) (hb _ (by decide) (by decide)) (hb _ (by decide) (by decide)) pr) hn hq (by decide) (by decide)
  rw [Nat.zero_add] at this
  exact this
/-- what the reference takes of an answer that is kept -/
theorem hit_r {A : AP} {n q Q : Nat} {R : IM} (wf : WF A) (pr : PR A 0 0 0 0 R) (hn : 1000 ≤ n) (hq : q < aNr A) (hQ : Q < 8) : ∃ R', (Option.bind (f_Mod_tells n (nI q) 51 R) fun v29 => if v29 = 0 then (b_Mod_ask_283 n (nI q) (nI Q) (R MO 83) R) else (chk (inb ((5 * nI Q) + 1) 40) <| b_Mod_ask_283 n (nI q) (nI Q) (R A_answers ((5 * nI Q) + 1 : Int32).toNatClampNeg) R)) = some R' ∧ (∀ b, b ≠ MO → R' b = R b) ∧ (∀ j, ¬ (83 ≤ j ∧ j ≤ 85) → j ≠ 68 → R' MO j = R MO j) ∧ (∀ j, j < 3 → (aTe A q (51 + j) → R' MO (83 + j) = R A_answers (5 * Q + 1 + j)) ∧ (¬ aTe A q (51 + j) → R' MO (83 + j) = R MO (83 + j))) ∧ R' MO 68 = R A_answers (5 * Q + 4) := by
  have e5 : (5 : Int32) * nI Q = nI (5 * Q) := nml (a := 5)
  have f1 : nI (5 * Q) + 1 = nI (5 * Q + 1) := nk1
  have f2 : nI (5 * Q) + 2 = nI (5 * Q + 2) := nad (b := 2)
  have f3 : nI (5 * Q) + 3 = nI (5 * Q + 3) := nad (b := 3)
  have f4 : nI (5 * Q) + 4 = nI (5 * Q + 4) := nad (b := 4)
  have ea : ∀ (D : IM) (y : Int32), b_Mod_ask_345 n (nI Q) y D = some (up (up D MO 85 y) MO 68 (D A_answers (5 * Q + 4))) := by
    intro D y
    rw [b_Mod_ask_345, lt, e5, f4, chk_i (nki (by omega) (by decide)), lt, nkc (by omega), up_o (by decide)]
  have eb : ∀ (D : IM) (y : Int32), (∀ b, b ≠ MO → D b = R b) → ∃ z, ((aTe A q 53 → z = R A_answers (5 * Q + 3)) ∧ (¬ aTe A q 53 → z = D MO 85)) ∧ b_Mod_ask_314 n (nI q) (nI Q) y D = some (up (up (up D MO 84 y) MO 85 z) MO 68 (D A_answers (5 * Q + 4))) := by
    intro D y hD
    obtain ⟨t1, t0⟩ := tel_c (n := n) (w := 53) (R' := up D MO 84 y) wf pr (fun b h1 h2 => by rw [fu (by show b ≠ 102; omega), hD b (by show b ≠ 102; omega)]) hn hq
    by_cases z : aTe A q 53
    · refine ⟨R A_answers (5 * Q + 3), ⟨fun _ => rfl, fun y => absurd z y⟩, ?_⟩
      rw [b_Mod_ask_314, lt, show (53 : Int32) = nI 53 from rfl, t1 z, Option.bind_some, if_neg (by decide), e5, f3, chk_i (nki (by omega) (by decide)), nkc (by omega), up_o (by decide), hD A_answers (by decide), ea, up_o (by decide), hD A_answers (by decide)]
    · refine ⟨D MO 85, ⟨fun y => absurd y z, fun _ => rfl⟩, ?_⟩
      rw [b_Mod_ask_314, lt, show (53 : Int32) = nI 53 from rfl, t0 z, Option.bind_some, if_pos rfl, up_ne (Or.inr (by decide)), ea, up_o (by decide)]
  have ec : ∀ (y : Int32), ∃ u z, ((aTe A q 52 → u = R A_answers (5 * Q + 2)) ∧ (¬ aTe A q 52 → u = R MO 84)) ∧ ((aTe A q 53 → z = R A_answers (5 * Q + 3)) ∧ (¬ aTe A q 53 → z = R MO 85)) ∧ b_Mod_ask_283 n (nI q) (nI Q) y R = some (up (up (up (up R MO 83 y) MO 84 u) MO 85 z) MO 68 (R A_answers (5 * Q + 4))) := by
    intro y
    obtain ⟨t1, t0⟩ := tel_c (n := n) (w := 52) (R' := up R MO 83 y) wf pr (fun b h1 h2 => by rw [fu (by show b ≠ 102; omega)]) hn hq
    by_cases z : aTe A q 52
    · obtain ⟨v, hv, ev⟩ := eb (up R MO 83 y) (R A_answers (5 * Q + 2)) (fun b hb => fu hb)
      rw [up_ne (Or.inr (by decide))] at hv
      refine ⟨_, v, ⟨fun _ => rfl, fun y => absurd z y⟩, hv, ?_⟩
      rw [b_Mod_ask_283, lt, show (52 : Int32) = nI 52 from rfl, t1 z, Option.bind_some, if_neg (by decide), e5, f2, chk_i (nki (by omega) (by decide)), nkc (by omega), up_o (by decide), ev, up_o (by decide)]
    · obtain ⟨v, hv, ev⟩ := eb (up R MO 83 y) (R MO 84) (fun b hb => fu hb)
      rw [up_ne (Or.inr (by decide))] at hv
      refine ⟨_, v, ⟨fun y => absurd y z, fun _ => rfl⟩, hv, ?_⟩
      rw [b_Mod_ask_283, lt, show (52 : Int32) = nI 52 from rfl, t0 z, Option.bind_some, if_pos rfl, up_ne (Or.inr (by decide)), ev, up_o (by decide)]
  have fin : ∀ (y : Int32), ((aTe A q 51 → y = R A_answers (5 * Q + 1)) ∧ (¬ aTe A q 51 → y = R MO 83)) → ∃ R', b_Mod_ask_283 n (nI q) (nI Q) y R = some R' ∧ (∀ b, b ≠ MO → R' b = R b) ∧ (∀ j, ¬ (83 ≤ j ∧ j ≤ 85) → j ≠ 68 → R' MO j = R MO j) ∧ (∀ j, j < 3 → (aTe A q (51 + j) → R' MO (83 + j) = R A_answers (5 * Q + 1 + j)) ∧ (¬ aTe A q (51 + j) → R' MO (83 + j) = R MO (83 + j))) ∧ R' MO 68 = R A_answers (5 * Q + 4) := by
    intro y hy
    obtain ⟨u, z, hu, hz, ez⟩ := ec y
    refine ⟨_, ez, fun b hb => by rw [fu hb, fu hb, fu hb, fu hb], fun j h1 h2 => by rw [up_ne (Or.inr h2), up_ne (Or.inr (by omega)), up_ne (Or.inr (by omega)), up_ne (Or.inr (by omega))], fun j hj => ?_, up_self⟩
    have : j = 0 ∨ j = 1 ∨ j = 2 := by omega
    rcases this with rfl | rfl | rfl
    · rw [up_ne (Or.inr (by decide)), up_ne (Or.inr (by decide)), up_ne (Or.inr (by decide)), up_self]
      exact hy
    · rw [up_ne (Or.inr (by decide)), up_ne (Or.inr (by decide)), up_self]
      exact hu
    · rw [up_ne (Or.inr (by decide)), up_self]
      exact hz
  obtain ⟨t1, t0⟩ := tel_c (n := n) (w := 51) (R' := R) wf pr (fun _ _ _ => rfl) hn hq
  by_cases z : aTe A q 51
  · obtain ⟨R', h⟩ := fin (R A_answers (5 * Q + 1)) ⟨fun _ => rfl, fun y => absurd z y⟩
    refine ⟨R', ?_, h.2⟩
    rw [show (51 : Int32) = nI 51 from rfl, t1 z, Option.bind_some, if_neg (by decide), e5, f1, chk_i (nki (by omega) (by decide)), nkc (by omega)]
    exact h.1
  · obtain ⟨R', h⟩ := fin (R MO 83) ⟨fun y => absurd y z, fun _ => rfl⟩
    refine ⟨R', ?_, h.2⟩
    rw [show (51 : Int32) = nI 51 from rfl, t0 z, Option.bind_some, if_pos rfl]
    exact h.1
theorem ftc {C : IM} {m i Q : Nat} (hm : isMch m) (hc : QC C m) (hQ : Q < 8) (hs : f_Rng_startOf (m + 15) (nI i) C = some (nI (25 * Q))) : f_Rng_fetch (m + 15) (nI i) 37 C = some (cpy C (m + 16) 37 (25 * Q) 0 25) := by
  have l1 : lenA (m + 15 + 1) = 200 := ln_16 hm
  have l2 : lenA 37 = 25 := rfl
  have e25 : nI (25 * Q) + 25 = nI (25 * Q + 25) := nad (b := 25)
  rw [f_Rng_fetch, hs, Option.bind_some, if_neg (show ¬ nI (25 * Q) < 0 from fun z => by have := (nlt (b := 0) (by omega) (by decide)).mp z; omega), hc.2.1, e25, l1, if_neg (show ¬ Int32.ofNat 200 < nI (25 * Q + 25) from fun z => by have := (nlt (a := 200) (by decide) (by omega)).mp z; omega), l2, if_neg (by decide), chk_i (show ¬ nI (25 * Q) < 0 from fun z => by have := (nlt (b := 0) (by omega) (by decide)).mp z; omega), chk_i (by decide), nkc (show 25 * Q < 5000 by omega), chk_i (show 25 * Q + (25 : Int32).toNatClampNeg ≤ 200 by show 25 * Q + 25 ≤ 200; omega), chk_i (by decide), lt, b_Rng_fetch_47]
  rfl
