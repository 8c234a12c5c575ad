/-! listing is closed -/
def Pl (L : List Int32) : Prop := ∀ i, ch8 (L.getD i 0) = L.getD i 0
theorem pl_n : ∀ m, m < 128 → ch8 (nI m) = nI m := by decide +kernel
theorem Pl.app {A B : List Int32} (ha : Pl A) (hb : Pl B) : Pl (A ++ B) := fun i => by
  rw [getD_app]
  split
  · exact ha i
  · exact hb _
theorem Pl_out {L : List Int32} {n : Nat} (hl : L.length ≤ n) (h : ∀ i, i < n → ch8 (L.getD i 0) = L.getD i 0) : Pl L := fun i => by
  by_cases q : i < n
  · exact h i q
  · rw [List.getD_eq_getElem?_getD, List.getElem?_eq_none (by omega)]
    decide
theorem pl_kwd : ∀ kd, kd < 22 → ∀ i, i < 8 → ch8 ((kwd kd 116).getD i 0) = (kwd kd 116).getD i 0 := by decide +kernel
theorem pl_311 : ∀ i, i < 5 → ch8 (bw_311.getD i 0) = bw_311.getD i 0 := by decide +kernel
theorem pl_319 : ∀ i, i < 3 → ch8 (bw_319.getD i 0) = bw_319.getD i 0 := by decide +kernel
theorem pl_325 : ∀ i, i < 3 → ch8 (bw_325.getD i 0) = bw_325.getD i 0 := by decide +kernel
theorem pl_327 : ∀ i, i < 3 → ch8 (bw_327.getD i 0) = bw_327.getD i 0 := by decide +kernel
theorem pl_329 : ∀ i, i < 3 → ch8 (bw_329.getD i 0) = bw_329.getD i 0 := by decide +kernel
theorem pl_331 : ∀ i, i < 5 → ch8 (bw_331.getD i 0) = bw_331.getD i 0 := by decide +kernel
theorem pl_dg : ∀ (m a : Nat), a < m → Pl (dg a)
  | 0, _, h => absurd h (Nat.not_lt_zero _)
  | m + 1, a, h => by
    by_cases h1 : a < 10
    · rw [dg_1 h1]
      exact Pl_out (n := 1) (Nat.le_refl _) (fun i hi => by rw [show i = 0 by omega]; exact pl_n _ (by omega))
    · rw [dg_2 h1]
      exact (pl_dg m (a / 10) (by omega)).app (Pl_out (n := 1) (Nat.le_refl _) (fun i hi => by rw [show i = 0 by omega]; exact pl_n _ (by omega)))
theorem pl_dS (x : Int32) : Pl (dS x) := by
  unfold dS
  split
  · exact Pl.app (A := [nI 45]) (Pl_out (n := 1) (Nat.le_refl _) (fun i hi => by rw [show i = 0 by omega]; exact pl_n _ (by decide))) (pl_dg _ _ (Nat.lt_succ_self _))
  · exact pl_dg _ _ (Nat.lt_succ_self _)
theorem pl_wfl {bs : List Int32} {v : Int32} (h : Pl bs) : Pl (wfl bs v) := by
  unfold wfl
  split
  · exact Pl_out (n := 0) (Nat.le_refl _) (fun i hi => absurd hi (Nat.not_lt_zero _))
  · exact h.app (pl_dS v)
theorem pl_line (c t : Int32) : Pl (lineOf c t) := by
  have hh : Pl (hW (kdO c)) := by
    unfold hW
    split
    · rename_i q
      exact Pl_out (kwd_8 _ q) (pl_kwd _ q)
    · exact (Pl_out (n := 5) (Nat.le_refl _) pl_311).app (pl_dS _)
  unfold lineOf
  exact ((((hh.app (pl_wfl (Pl_out (n := 3) (Nat.le_refl _) pl_319))).app (pl_wfl (Pl_out (n := 3) (Nat.le_refl _) pl_325))).app (pl_wfl (Pl_out (n := 3) (Nat.le_refl _) pl_327))).app (pl_wfl (Pl_out (n := 3) (Nat.le_refl _) pl_329))).app (pl_wfl (Pl_out (n := 5) (Nat.le_refl _) pl_331))
theorem at_LR {L : List Int32} {i : Nat} (h : Pl L) : atL L i = atR L i := by
  unfold atL atR
  split
  · exact h i
  · rfl
theorem list_thr {n : Nat} {J : JM} {a0 a1 : Int32} {I : IM} (h : a0 < 0 ∨ (64 : Int32) ≤ a0 ∨ a1 < 0) : f_Mod_listing n J a0 a1 I = some (0, up I MO 0 1) := by
  have e : (if (if a0 < 0 then (0 : Int32) else (if (63 : Int32) < a0 then 0 else 1)) = 0 then (1 : Int32) else (if 0 ≤ a1 then 0 else 1)) = 1 := by
    by_cases c1 : a0 < 0
    · rw [if_pos c1]
      rfl
    · rw [if_neg c1]
      by_cases c2 : (63 : Int32) < a0
      · rw [if_pos c2]
        rfl
      · rw [if_neg c2, if_neg (by decide)]
        rcases h with h | h | h
        · exact absurd h c1
        · exact absurd h (fun q => c2 (by rw [Int32.le_iff_toInt_le] at q; rw [Int32.lt_iff_toInt_lt]; simp only [Int32.reduceToInt] at q ⊢; omega))
        · rw [if_neg (Int32.not_le.mpr h)]
  unfold f_Mod_listing f_Mod_in
  rw [Option.bind_some, e, refuse_1, Option.bind_some, if_neg (show ¬ (1 : Int32) = 0 by decide)]
theorem list_et {hd : Nat} {a0 a1 : Int32} {I : IM} (h : a0 < 0 ∨ (64 : Int32) ≤ a0 ∨ a1 < 0) : t_Eng_listing hd a0 a1 I = some 3 := by
  unfold t_Eng_listing
  by_cases c1 : a0 < 0
  · rw [if_pos c1]
    rfl
  · rw [if_neg c1]
    by_cases c2 : (64 : Int32) ≤ a0
    · rw [if_pos c2]
      rfl
    · rw [if_neg c2]
      rcases h with h | h | h
      · exact absurd h c1
      · exact absurd h c2
      · rw [if_neg (Int32.not_le.mpr h)]
        rfl
theorem do_listing {Δ : Dx} {PX : Nat → IM → Prop} (hP : PXF PX) : Do_listing Δ (Sx Δ (RlL (Rl PX))) := by
  intro a0 a1 t ht σ hS
  obtain ⟨I, X⟩ := σ
  obtain ⟨rl, hd, ot, pt, it, hX, hM, hJ, hR, hL⟩ := hS
  by_cases hz : a0 < 0 ∨ (64 : Int32) ≤ a0 ∨ a1 < 0
  · refine ⟨1, 0, fun y => y = (I, X), evXE_x (lt_listing_IOE (j := 12) (by decide) (et_Eng_listing hX (list_et hz))), fun σ1 h1 => ?_⟩
    subst h1
    exact ⟨(up I MO 0 1, X), 3, 0, by decide, by decide, ef_Mod_listing (n := 1000) hM (r := (0, up I MO 0 1)) (list_thr hz), ef_Mod_thrown (I := up I MO 0 1) hM (congrArg some up_self), fun q => absurd q (by decide), rl, hd, ot, pt, it, hX, hM, hJ, Rl_thr hP hX.i_hd hX.i_ot hR, LN_c (fun b hb => up_row (show b ≠ 102 by omega)) hL⟩
  · have c1 : ¬ a0 < 0 := fun h => hz (Or.inl h)
    have c2 : ¬ (64 : Int32) ≤ a0 := fun h => hz (Or.inr (Or.inl h))
    obtain ⟨i, hi, ea⟩ := nn_e (x := a1) (Int32.not_lt.mp (fun h => hz (Or.inr (Or.inr h))))
    subst ea
    have c2' : a0 < 64 := Int32.not_le.mp c2
    have c63 : ¬ (63 : Int32) < a0 := fun q => i63.mp q c2'
    have hlt : a0.toInt < 64 := by rw [ti] at c2'; exact c2'
    have hin : inb a0 64 := inb_of c1 hlt
    obtain ⟨e1, e2⟩ := hR.2.2.2.2.2.1.1.1 _ (nat_lt c1 hlt)
    have hBw : Bw Δ (I, X) := by
      obtain ⟨m, hm, em⟩ := nn_e (x := I 55 3) (by rw [Int32.le_iff_toInt_le]; exact hL.2.1)
      exact ⟨hX.dy, hL.2.2, hL.1, m, hm, em⟩
    have hE := ev_listing hX c1 c2 hin hi hBw
    have hcs := cst_le (σ := (I, X)) (n := (lineOf (I (hd + 1) a0.toNatClampNeg) (I (hd + 2) a0.toNatClampNeg)).length)
    refine ⟨0, atL (lineOf (I (hd + 1) a0.toNatClampNeg) (I (hd + 2) a0.toNatClampNeg)) i, _, lr_listE (j := 8) (by decide) (by show cst (I, X) _ ≤ 8; omega) (by show 70 * cst (I, X) _ ≤ 400; omega) hE, fun σ1 h1 => ?_⟩
    obtain ⟨x, hx, rfl⟩ := h1
    obtain ⟨I1, J1, V1⟩ := x
    obtain ⟨⟨f1, f2, f3, f4, f5⟩, ⟨b1, b2, b3, b4, b5, b6⟩, -⟩ := hx
    have f1' : ∀ a, a ≠ 55 → a ≠ 56 → I1 a = I a := f1
    have f3' : ∀ a, a ≠ 200 → J1 a = X.1 a := f3
    have f4' : ∀ a, a ≠ 55 → a ≠ 201 → V1 a = X.2 a := f4
    have hJ1 : JOK J1 := by
      unfold JOK
      rw [f3' 6 (by decide), f3' 104 (by decide)]
      exact hJ
    have hM1 : MX Δ (J1, V1) := by
      unfold MX at hM ⊢
      show _ ∧ _
      simp only [f4' 102 (by decide) (by decide), f3' 104 (by decide)]
      exact hM
    have fx : ∀ q ∈ fixR, q.1 ≠ 55 ∧ q.1 ≠ 201 := by decide
    have hX1 : EX Δ (J1, V1) rl hd ot pt it := by
      obtain ⟨x1, x2, x3, x4, x5, x6, x7, x8, x9, x10, x11, x12, x13⟩ := hX
      refine ⟨fun q hq => ?_, x2, ?_, x4, ?_, x6, ?_, x8, ?_, x10, ?_, x12, b1⟩
      · show V1 q.1 q.2.1 = _
        rw [f4' q.1 (fx q hq).1 (fx q hq).2]
        exact x1 q hq
      · show V1 0 7 = _
        rw [f4' 0 (by decide) (by decide)]
        exact x3
      · show V1 0 8 = _
        rw [f4' 0 (by decide) (by decide)]
        exact x5
      · show V1 0 9 = _
        rw [f4' 0 (by decide) (by decide)]
        exact x7
      · show V1 7 1 = _
        rw [f4' 7 (by decide) (by decide)]
        exact x9
      · show V1 15 1 = _
        rw [f4' 15 (by decide) (by decide)]
        exact x11
    generalize er : atL (lineOf (I (hd + 1) a0.toNatClampNeg) (I (hd + 2) a0.toNatClampNeg)) i = r
    obtain ⟨I2, q1, q2, q3, q4⟩ := ref_list (n := 1000) (J := outJ J1 r.toInt64) (x1 := a0) (i := i) (I := I1) (jok_out hJ1) (by decide) c1 c63 hin hi
    have eA : I1 A_code a0.toNatClampNeg = I (hd + 1) a0.toNatClampNeg := by
      rw [f1' A_code (by decide) (by decide)]
      exact e1.symm
    have eT : I1 A_codeTags a0.toNatClampNeg = I (hd + 2) a0.toNatClampNeg := by
      rw [f1' A_codeTags (by decide) (by decide)]
      exact e2.symm
    rw [eA, eT, ← at_LR (pl_line _ _), er] at q1
    have hlen := DYX_L b1
    have h55 : I2 55 = I1 55 := q2 55 (by decide) (by decide)
    have h56 : I2 56 = I1 56 := q2 56 (by decide) (by decide)
    refine ⟨(I2, (outJ J1 r.toInt64, V1)), 3, 0, by decide, by decide, ef_Mod_listing (X := (outJ J1 r.toInt64, V1)) (n := 1000) (mx_out hM1) (r := (r, I2)) q1, ef_Mod_thrown (X := (outJ J1 r.toInt64, V1)) (I := I2) (mx_out hM1) (congrArg some q4), fun _ => outJ_s (J := J1) (x := r.toInt64), rl, hd, ot, pt, it, hX1, mx_out hM1, jok_out hJ1, Rl_say hP hX.i_hd hX.i_ot (fun b h1 h2 h3 h4 => (q2 b h1 h2).trans (f1' b h3 h4)) (fun j h8 h0 => (q3 j h8 h0).trans (by rw [f1' 102 (by decide) (by decide)])) hR, ?_, ?_, ?_⟩
    · show I2 55 1 = 0
      rw [h55]
      exact b3
    · show 0 ≤ (I2 55 3).toInt
      rw [h55, show I1 55 3 = nI _ from b4, nI_toInt (by omega)]
      exact Int.natCast_nonneg _
    · show ∀ k, fits .byte (.int (I2 56 k)) = true
      rw [h56]
      exact b2
