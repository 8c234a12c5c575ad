/-! a rule worked out, on both sides -/
theorem FCr_of {W m : Nat} {C0 C : IM} (w : Wm W m) (h : FC W m C0 C) : FCr W m C0 C := ⟨fun b q1 _ q3 q4 q5 q6 => h.1 b q1 q3 q4 q5 q6, h.2.2, fun j _ => by rw [FC_1 w h]⟩
theorem FCr_t {W m : Nat} {C0 C C' : IM} (h : FCr W m C0 C) (h' : FCr W m C C') : FCr W m C0 C' := ⟨fun b q1 q2 q3 q4 q5 q6 => by rw [h'.1 b q1 q2 q3 q4 q5 q6, h.1 b q1 q2 q3 q4 q5 q6], fun j hj => by rw [h'.2.1 j hj, h.2.1 j hj], fun j hj => by rw [h'.2.2 j hj, h.2.2 j hj]⟩
theorem NP_t {m : Nat} {C0 R0 C R C' R' : IM} (h : NP m C0 R0 C R) (h' : NP m C R C' R') : NP m C0 R0 C' R' := by
  obtain ⟨a1, a2, a3, a4, a5, a6⟩ := h
  obtain ⟨b1, b2, b3, b4, b5, b6⟩ := h'
  exact ⟨b1.trans a1, b2.trans a2, b3.trans a3, b4.trans a4, b5.trans a5, b6.trans a6⟩
theorem EC_m {A : AP} {p q n W m ko ro so co : Nat} {C0 R0 C R : IM} (ec : EC A p q n W m ko ro so co C0 R0) (fc : FCr W m C0 C) (fr : FRr R0 R) (h1 : C (W + 1) 1 = 0) : EC A p q n W m ko ro so co C R := by
  obtain ⟨hn, hm, hW, hp, wf, pc, pr, hco, hq, hN, hO, hc⟩ := ec
  have w := Wm_of hW hm
  unfold Wm at w
  refine ⟨hn, hm, hW, hp, wf, PC_c (fun j hj => ?_) pc, PR_c (fr.1 _ (by decide) (by decide) (by decide) (by decide)) (fr.1 _ (by decide) (by decide) (by decide) (by decide)) (fr.1 _ (by decide) (by decide) (by decide) (by decide)) (fr.1 _ (by decide) (by decide) (by decide) (by decide)) (fr.1 _ (by decide) (by decide) (by decide) (by decide)) (fr.1 _ (by decide) (by decide) (by decide) (by decide)) (fr.1 _ (by decide) (by decide) (by decide) (by decide)) (fr.1 _ (by decide) (by decide) (by decide) (by decide)) (fr.1 _ (by decide) (by decide) (by decide) (by decide)) pr, hco, hq, fun k hk tk => ?_, fun k hk => ?_, h1⟩
  · obtain ⟨a1, a2, a3, a4⟩ := polap hp hW hm hj
    exact fc.1 _ a1 a2 a3 (by omega) (by omega) (by omega)
  · rw [nv_r fr, fc.2.2 _ (Or.inr (by omega))]
    exact hN k hk tk
  · rw [fc.1 (m + 5) (by omega) (by omega) (by omega) (by omega) (by omega) (by omega), fr.1 A_owners (by decide) (by decide) (by decide) (by decide)]
    exact hO k hk
/-- the class's step at the end of a statement -/
theorem cc_t {n W p m f stop j w : Nat} {C : IM} {ex : Int32} (hs : C (p + 1) j = nI (41 + w)) (hx : C (p + 2) j = ex) (h1 : j < stop) (h2 : stop ≤ 900) (hw : 1 ≤ w) (hw3 : w < 4) (hh : C W 2 = nI 1) (g : C (W + 1) 1 = 0) : l_Wrk_workOut_46 n W p m (f + 1) (nI stop) (nI j) C = l_Wrk_workOut_46 n W p m f (nI stop) (nI (j + 1)) (up (up C W 2 (nI 0)) (W + 1) (1 + w) (C (W + 2) 0)) := by
  have g' : up (up C W 2 (nI 0)) (W + 1) (1 + w) (C (W + 2) 0) (W + 1) (1 : Int32).toNatClampNeg = 0 := by
    show up (up C W 2 (nI 0)) (W + 1) (1 + w) (C (W + 2) 0) (W + 1) 1 = 0
    rw [up_ne (Or.inr (by omega)), up_o (by omega)]
    exact g
  have co : f_Wrk_conclude n W (nI (41 + w)) ex C = some (up (up C W 2 (nI 0)) (W + 1) (1 + w) (C (W + 2) 0)) := by
    rw [f_Wrk_conclude, pop_f (h := 0) hh (by decide), Option.bind_some]
    have : w = 1 ∨ w = 2 ∨ w = 3 := by omega
    rcases this with rfl | rfl | rfl <;> rfl
  rw [l_Wrk_workOut_46, if_neg (nk h1 (by omega)), chk_i (nki (by omega) (by decide)), nkc (by omega), hs, hx, if_neg (fun z => by have := nij (b := 186) (by omega) (by decide) z; omega), if_neg (fun z => by have := nij (b := 191) (by omega) (by decide) z; omega), if_neg (show ¬ nI (41 + w) < 41 from fun z => by have := (nlt (b := 41) (by omega) (by decide)).mp z; omega), if_neg (show ¬ (44 : Int32) < nI (41 + w) from fun z => by have := (nlt (a := 44) (by decide) (by omega)).mp z; omega), co, Option.bind_some, b_Wrk_workOut_193, if_pos g', nk1]
theorem cc_n {n W p m f stop j : Nat} {C : IM} {ex : Int32} (hs : C (p + 1) j = 41) (hx : C (p + 2) j = ex) (h1 : j < stop) (h2 : stop ≤ 900) (hh : C W 2 = nI 1) (g : C (W + 1) 1 = 0) (hv : ¬ C (W + 2) 0 = 0) : l_Wrk_workOut_46 n W p m (f + 1) (nI stop) (nI j) C = l_Wrk_workOut_46 n W p m f (nI stop) (nI (j + 1)) (up C W 2 (nI 0)) := by
  have g' : up C W 2 (nI 0) (W + 1) (1 : Int32).toNatClampNeg = 0 := by
    show up C W 2 (nI 0) (W + 1) 1 = 0
    rw [up_o (by omega)]
    exact g
  have co : f_Wrk_conclude n W 41 ex C = some (up C W 2 (nI 0)) := by
    rw [f_Wrk_conclude, pop_f (h := 0) hh (by decide), Option.bind_some, if_neg (by decide), if_neg (by decide), if_neg (by decide), if_neg hv, b_Wrk_conclude_78]
  rw [l_Wrk_workOut_46, if_neg (nk h1 (by omega)), chk_i (nki (by omega) (by decide)), nkc (by omega), hs, hx, if_neg (by decide), if_neg (by decide), if_neg (by decide), if_neg (by decide), co, Option.bind_some, b_Wrk_workOut_193, if_pos g', nk1]
theorem cc_v {n W p m stop j : Nat} {C : IM} {ex : Int32} (hn : 1000 ≤ n) (hs : C (p + 1) j = 41) (hx : C (p + 2) j = ex) (h1 : j < stop) (h2 : stop ≤ 900) (hh : C W 2 = nI 1) (hv : C (W + 2) 0 = 0) : ∃ D, (∀ f, l_Wrk_workOut_46 n W p m (f + 1) (nI stop) (nI j) C = some D) ∧ (∀ b, b ≠ W → b ≠ W + 1 → D b = C b) ∧ D (W + 1) 1 = 3 ∧ D (W + 1) 5 = ex ∧ (∀ j, 2 ≤ j → j < 5 → D (W + 1) j = 0) ∧ ∀ j, j < 1 ∨ 10 ≤ j → D (W + 1) j = C (W + 1) j := by
  obtain ⟨D, dE, x1, x2, x3, x4, x5⟩ := enw (n := n) (W := W) (x := 3) (C := up C W 2 (nI 0)) hn
  have co : f_Wrk_conclude n W 41 ex C = some (up D (W + 1) 5 ex) := by
    rw [f_Wrk_conclude, pop_f (h := 0) hh (by decide), Option.bind_some, if_neg (by decide), if_neg (by decide), if_neg (by decide), if_pos hv, dE, Option.bind_some, lt, b_Wrk_conclude_78]
    rfl
  have g' : ¬ up D (W + 1) 5 ex (W + 1) (1 : Int32).toNatClampNeg = 0 := by
    show ¬ up D (W + 1) 5 ex (W + 1) 1 = 0
    rw [up_ne (Or.inr (by decide)), x2]
    decide
  refine ⟨up D (W + 1) 5 ex, fun f => ?_, fun b q1 q2 => ?_, ?_, up_self, fun j q1 q2 => ?_, fun j hj => ?_⟩
  · rw [l_Wrk_workOut_46, if_neg (nk h1 (by omega)), chk_i (nki (by omega) (by decide)), nkc (by omega), hs, hx, if_neg (by decide), if_neg (by decide), if_neg (by decide), if_neg (by decide), co, Option.bind_some, b_Wrk_workOut_193, if_neg g']
  · rw [fu q2, x1 b q2, fu q1]
  · rw [up_ne (Or.inr (by decide)), x2]
  · rw [up_ne (Or.inr (by omega)), x4 j q1 (by omega) (by omega)]
  · rw [up_ne (Or.inr (by omega)), x5 j hj, up_o (by omega)]
theorem r227 {n : Nat} {H : Int32 → Int32 → IM → Option IM} {x1 x2 v : Int32} {I : IM} {w : Nat} (hw : w < 4) : b_Mod_rule_227 n H x1 x2 v (nI (50 + w)) I = H x1 (x2 + 1) (if w = 0 then I else up I MO (82 + w) v) := by
  have : w = 0 ∨ w = 1 ∨ w = 2 ∨ w = 3 := by omega
  rw [b_Mod_rule_227]
  simp only [lt]
  rcases this with rfl | rfl | rfl | rfl
  · rw [if_neg (by decide), up_id rfl, if_neg (by decide), up_id rfl, if_neg (by decide), up_id rfl, if_pos rfl]
  · rw [if_pos (by decide), if_neg (by decide), up_id rfl, if_neg (by decide), up_id rfl, if_neg (by decide)]
  · rw [if_neg (by decide), up_id rfl, if_pos (by decide), if_neg (by decide), up_id rfl, if_neg (by decide)]
  · rw [if_neg (by decide), up_id rfl, if_neg (by decide), up_id rfl, if_pos (by decide), if_neg (by decide)]
/-- how both sides stand before statement s of rule q -/
def RU (A : AP) (q W m : Nat) (C0 R0 : IM) (s : Nat) (C R : IM) : Prop := FCr W m C0 C ∧ FRr R0 R ∧ C W 2 = nI 0 ∧ C (W + 1) 1 = 0 ∧ C (W + 1) 5 = -1 ∧ R MO 82 = 0 ∧ PP m C R ∧ (¬ tbi (aNm A q) 15 → NP m C0 R0 C R) ∧ ∀ j, j < 3 → ((∃ z, aSf A q ≤ z ∧ z < s ∧ aSk A z = nI (51 + j)) → C (W + 1) (2 + j) = R MO (83 + j)) ∧ ((¬ ∃ z, aSf A q ≤ z ∧ z < s ∧ aSk A z = nI (51 + j)) → C (W + 1) (2 + j) = 0 ∧ R MO (83 + j) = R0 MO (83 + j))
/-- and at its end -/
def RT (A : AP) (q W m so : Nat) (C0 R0 C R : IM) : Prop := FCr W m C0 C ∧ FRr R0 R ∧ PP m C R ∧ (¬ tbi (aNm A q) 15 → NP m C0 R0 C R) ∧ (∀ j, j < 3 → ¬ aTe A q (51 + j) → R MO (83 + j) = R0 MO (83 + j)) ∧ ((C (W + 1) 1 = 0 ∧ R MO 82 = 0 ∧ C (W + 1) 5 = -1 ∧ ∀ j, j < 3 → (aTe A q (51 + j) → C (W + 1) (2 + j) = R MO (83 + j)) ∧ (¬ aTe A q (51 + j) → C (W + 1) (2 + j) = 0 ∧ R MO (83 + j) = R0 MO (83 + j))) ∨ (C (W + 1) 1 = 3 ∧ R MO 82 = 3 ∧ (∀ j, j < 3 → C (W + 1) (2 + j) = 0) ∧ ∃ s, aSf A q ≤ s ∧ s < aSf A (q + 1) ∧ C (W + 1) 5 = aSa A s ∧ (so = 0 → R MO 68 = R0 A_statementAt s)) ∨ (tbi (aNm A q) 15 ∧ C (W + 1) 1 = 4 ∧ R MO 82 = 4 ∧ C (W + 1) 5 = -1))
