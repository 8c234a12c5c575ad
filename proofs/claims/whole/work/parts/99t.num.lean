/-! tokens: which there are; both readers in one; a number -/
def sgL : List Nat := [58, 59, 61, 60, 124, 38, 94, 43, 45, 33, 126, 40, 41, 44, 63]
def VL : List Nat := List.range 50 ++ [100, 101, 102, 317, 289, 316] ++ sgL.map (fun c => 128 + c)
theorem sg_V : ∀ c, c < 127 → nI c ∈ bs_sg → 128 + c ∈ VL := by decide +kernel
theorem V50 : ∀ c, c < 50 → c ∈ VL := by decide +kernel
theorem m2_i : ∀ c ∈ VL, ∀ w ∈ VL, m2r c = m2r w → c = w := by decide +kernel
theorem m2_n : ∀ w ∈ VL, w ≠ 102 → m2r w ≠ 201 ∧ m2r w ≠ 69 ∧ m2r w < 1000 := by decide +kernel
theorem V_b : ∀ w ∈ VL, w < 1000 := by decide +kernel
theorem tC_V {T : Nat → Int32} {N k : Nat} (vt : VT T N) : tC T N k ∈ VL := by
  unfold tC pTk
  by_cases c0 : qD T N k = 0
  · rw [if_pos c0]; decide
  rw [if_neg c0]
  obtain ⟨v1, -, v3⟩ := vt_c vt (show N - qD T N k < N by have := qD_le (T := T) (N := N) k; omega)
  split
  · show wix (pLw T N (qD T N k)) ∈ VL
    rcases wix_s (ls := pLw T N (qD T N k)) with ⟨y, -⟩ | ⟨y, -⟩
    · rw [y]; decide
    · exact V50 _ y
  · split
    · show (if qD T N k - (pNv T N (qD T N k) 0 0).2 ≤ 7 then 101 else 102) ∈ VL
      split <;> decide
    · split
      · rename_i z
        show 256 + (T (N - qD T N k)).toNatClampNeg ∈ VL
        rcases z.1 with y | y | y <;> rw [y] <;> decide
      · show (if T (N - qD T N k) ∈ bs_sg then 128 + (T (N - qD T N k)).toNatClampNeg else 102) ∈ VL
        split
        · rename_i z
          exact sg_V _ v1 (by rw [← v3]; exact z)
        · decide
theorem tkE {T : Nat → Int32} {N k w : Nat} {r : Int32} (vt : VT T N) (h : tokR (tC T N k) r) (hw : w ∈ VL) (h2 : w ≠ 102) : r = nI (m2r w) ↔ tC T N k = w := by
  obtain ⟨a1, a2, a3⟩ := m2_n w hw h2
  constructor
  · intro e
    by_cases c : tC T N k = 102
    · rcases h.2 c with y | y
      · exact absurd (nij (b := 201) (by omega) (by decide) (e.symm.trans y)) a1
      · exact absurd (nij (b := 69) (by omega) (by decide) (e.symm.trans y)) a2
    · obtain ⟨b1, b2, b3⟩ := m2_n _ (tC_V vt) c
      exact m2_i _ (tC_V vt) _ hw (nij (by omega) (by omega) ((h.1 c).symm.trans e))
  · intro e
    rw [h.1 (by rw [e]; exact h2), e]
theorem tkc {T : Nat → Int32} {N k w : Nat} (vt : VT T N) (hw : w < 1000) : nI (tC T N k) = nI w ↔ tC T N k = w := ⟨fun e => nij (by have := tC_b (k := k) vt; omega) (by omega) e, fun e => by rw [e]⟩
/-- both readers stand at the k-th token, and no fault was found -/
def ST (T : Nat → Int32) (N K k : Nat) (C R : IM) : Prop := RA T N K k C ∧ RB T N k R ∧ C 15 4 = -1 ∧ R MO 14 = -1
def CN (C C' : IM) : Prop := (∀ b, b ≠ 1 → b ≠ 15 → C' b = C b) ∧ C' 15 2 = C 15 2
def RN (R R' : IM) : Prop := (∀ b, b ≠ MO → R' b = R b) ∧ ∀ j, j ∉ [7, 10, 11, 12, 13, 14] → R' MO j = R MO j
theorem CN_t {A B C : IM} (h : CN A B) (g : CN B C) : CN A C := ⟨fun b z1 z2 => (g.1 b z1 z2).trans (h.1 b z1 z2), g.2.trans h.2⟩
theorem RN_t {A B C : IM} (h : RN A B) (g : RN B C) : RN A C := ⟨fun b z1 => (g.1 b z1).trans (h.1 b z1), fun j hj => (g.2 j hj).trans (h.2 j hj)⟩
theorem CN_0 {A : IM} : CN A A := ⟨fun _ _ _ => rfl, rfl⟩
theorem RN_0 {A : IM} : RN A A := ⟨fun _ _ => rfl, fun _ _ => rfl⟩
theorem CN_u {A : IM} {j : Nat} {v : Int32} (h : j ≠ 2) : CN A (up A 15 j v) := ⟨fun b _ z => fu z, up_ne (Or.inr (fun z => h z.symm))⟩
theorem RN_u {A : IM} {j : Nat} {v : Int32} (h : j ∈ [7, 10, 11, 12, 13, 14]) : RN A (up A MO j v) := ⟨fun b z => fu z, fun i hi => up_ne (Or.inr (fun z => hi (by rw [z]; exact h)))⟩
def FL (T : Nat → Int32) (N : Nat) (C R : IM) : Prop := 0 ≤ R MO 14 ∧ R MO 14 = (if C 15 4 = -1 then C 1 2 else C 15 4) ∧ TXc T N C
theorem RB_c {T : Nat → Int32} {N k : Nat} {R R' : IM} (h : RB T N k R) (h1 : ∀ j, j ∈ [2, 10, 11, 12, 13] → R' MO j = R MO j) (h2 : R' A_signs = R A_signs) : RB T N k R' := by
  unfold RB TXr at h ⊢
  rw [h1 2 (by decide), h1 10 (by decide), h1 11 (by decide), h1 12 (by decide), h1 13 (by decide), h2]
  exact h
theorem RB_u {T : Nat → Int32} {N k j : Nat} {v : Int32} {R : IM} (h : RB T N k R) (hj : j ∉ [2, 10, 11, 12, 13]) : RB T N k (up R MO j v) := RB_c h (fun i hi => up_ne (Or.inr (fun z => hj (by rw [← z]; exact hi)))) (fu (by decide))
theorem RA_u {T : Nat → Int32} {N K k a j : Nat} {v : Int32} {C : IM} (h : RA T N K k C) (ha : 6 ≤ a) : RA T N K k (up C a j v) := RA_c (fu (by omega)) (fu (by omega)) (fu (by omega)) (fu (by omega)) (fu (by omega)) h
theorem ng1 : ¬ (0 : Int32) ≤ -1 := by decide
theorem adS {T : Nat → Int32} {N K k n : Nat} {J : JM} {C R : IM} (hJ : JOK J) (hn : 1000 ≤ n) (vt : VT T N) (h : ST T N K k C R) (z1 : tC T N k ≠ 100) (z2 : tC T N k ≠ 102) : ∃ C' R', f_Rdr_advance C = some C' ∧ f_Mod_step n J R = some R' ∧ f_Mod_advance n J R = some R' ∧ ST T N K (k + 1) C' R' ∧ (∀ b, b ≠ 1 → C' b = C b) ∧ (∀ b, b ≠ MO → R' b = R b) ∧ ∀ j, j ≠ 10 → j ≠ 11 → j ≠ 12 → j ≠ 13 → R' MO j = R MO j := by
  obtain ⟨ra, rb, h4, h14⟩ := h
  have hk : k < K := by
    have := ra.2.2.1
    by_cases e : k = K
    · rcases ra.2.1.2.1 with y | y
      · exact absurd (e ▸ y) z1
      · exact absurd (e ▸ y) z2
    · omega
  obtain ⟨C', a1, a2, a3⟩ := adC vt ra hk
  obtain ⟨R', b1, b2, b3, b4⟩ := adR (n := n) hJ hn vt rb
  refine ⟨C', R', a1, ?_, b1, ⟨a2, b2, by rw [a3 15 (by decide)]; exact h4, by rw [b4 14 (by decide) (by decide) (by decide) (by decide)]; exact h14⟩, a3, b3, b4⟩
  rw [f_Mod_step, h14, if_neg ng1, b1, Option.bind_some, b_Mod_step_11]
theorem adS_f {C C' R R' : IM} (h1 : ∀ b, b ≠ 1 → C' b = C b) (h2 : ∀ b, b ≠ MO → R' b = R b) (h3 : ∀ j, j ≠ 10 → j ≠ 11 → j ≠ 12 → j ≠ 13 → R' MO j = R MO j) : CN C C' ∧ RN R R' := ⟨⟨fun b z _ => h1 b z, by rw [h1 15 (by decide)]⟩, ⟨h2, fun j hj => h3 j (fun z => hj (by rw [z]; decide)) (fun z => hj (by rw [z]; decide)) (fun z => hj (by rw [z]; decide)) (fun z => hj (by rw [z]; decide))⟩⟩
theorem stp0 {n : Nat} {J : JM} {R : IM} (h : 0 ≤ R MO 14) : f_Mod_step n J R = some R := by
  rw [f_Mod_step, if_pos h, b_Mod_step_11]
theorem tP_b {T : Nat → Int32} {N k : Nat} (vt : VT T N) : 0 ≤ nI (tP T N k) ∧ ¬ nI (tP T N k) = -1 := by
  have b : tP T N k < 1000 := by have := vt.1; unfold tP; omega
  have z : (0 : Int32) ≤ nI (tP T N k) := (nle (a := 0) (by decide) (by omega)).mpr (Nat.zero_le _)
  exact ⟨z, fun e => by rw [e] at z; exact ng1 z⟩
/-- a number, behind its minus -/
theorem tn44 {T : Nat → Int32} {N K k p n : Nat} {J : JM} {C R : IM} {lo hi y : Int32} (hJ : JOK J) (hn : 1000 ≤ n) (vt : VT T N) (h : ST T N K k C R) : (∃ C' R', b_Img_readNumber_44 lo hi (nI (tP T N p)) y C = some (1, C') ∧ b_Mod_takeNumber_35 n J lo hi (nI (tP T N p)) y R = some R' ∧ ST T N K (k + 1) C' R' ∧ C' 15 3 = R' MO 7 ∧ lo ≤ R' MO 7 ∧ R' MO 7 ≤ hi ∧ CN C C' ∧ RN R R') ∨ ∃ C' R', b_Img_readNumber_44 lo hi (nI (tP T N p)) y C = some (0, C') ∧ b_Mod_takeNumber_35 n J lo hi (nI (tP T N p)) y R = some R' ∧ FL T N C' R' ∧ CN C C' ∧ RN R R' := by
  obtain ⟨ra, rb, h4, h14⟩ := id h
  obtain ⟨p1, p2⟩ := tP_b (k := k) vt
  obtain ⟨q1, q2⟩ := tP_b (k := p) vt
  have c11 : C 1 1 = nI (tC T N k) := ra.2.2.2.2.1
  have c12 : C 1 2 = nI (tP T N k) := ra.2.2.2.2.2.1
  have r12 : R MO 12 = nI (tP T N k) := rb.2.2.1
  have t1 : C 1 1 = 101 ↔ tC T N k = 101 := by rw [c11]; exact tkc (w := 101) vt (by decide)
  have t2 : R MO 10 = 200 ↔ tC T N k = 101 := tkE (w := 101) vt rb.2.1 (by decide) (by decide)
  by_cases z : tC T N k = 101
  rotate_left
  · refine Or.inr ⟨C, up (up R MO 14 (nI (tP T N k))) MO 7 (if y = 0 then R MO 11 else -(R MO 11)), ?_, ?_, ⟨?_, ?_, ra.1⟩, CN_0, RN_t (RN_u (by decide)) (RN_u (by decide))⟩
    · rw [b_Img_readNumber_44, if_neg (fun e => z (t1.mp e))]
    · rw [b_Mod_takeNumber_35, h14, if_neg ng1, if_neg (fun e => z (t2.mp e)), f_Mod_fail, h14, if_neg ng1, lt, Option.bind_some, b_Mod_takeNumber_56, r12, up_self, if_pos p1, b_Mod_takeNumber_98, lt, up_ne (Or.inr (show 11 ≠ 14 by decide)), stp0 (by rw [up_ne (Or.inr (by decide)), up_self]; exact p1), Option.bind_some]
    · rw [up_ne (Or.inr (by decide)), up_self]; exact p1
    · rw [up_ne (Or.inr (by decide)), up_self, h4, if_pos rfl, c12]
  have v1 := ra.2.2.2.2.2.2 z
  have v2 := rb.2.2.2.2 z
  obtain ⟨v, hv⟩ : ∃ v : Int32, v = if y = 0 then tV T N k else -(tV T N k) := ⟨_, rfl⟩
  have ec : b_Img_readNumber_44 lo hi (nI (tP T N p)) y C = b_Img_readNumber_82 lo hi (nI (tP T N p)) v C := by
    rw [b_Img_readNumber_44, if_pos (t1.mpr z), v1, hv]
    by_cases q : y = 0
    · rw [if_pos q, if_pos q]
    · rw [if_neg q, if_neg q]
  have er : b_Mod_takeNumber_35 n J lo hi (nI (tP T N p)) y R = if lo ≤ v ∧ v ≤ hi then b_Mod_takeNumber_98 n J v R else b_Mod_takeNumber_98 n J v (up R MO 14 (nI (tP T N p))) := by
    rw [b_Mod_takeNumber_35, h14, if_neg ng1, if_pos (t2.mpr z), b_Mod_takeNumber_56, h14, if_neg ng1, v2, ← hv, inF, Option.bind_some]
    by_cases q : lo ≤ v ∧ v ≤ hi
    · rw [if_pos q, if_pos q, if_neg (show ¬ (1 : Int32) = 0 by decide)]
    · rw [if_neg q, if_neg q, if_pos rfl, lt]
  by_cases q : lo ≤ v ∧ v ≤ hi
  · have st1 : ST T N K k (up C 15 3 v) (up R MO 7 v) := ⟨RA_u ra (by decide), RB_u rb (by decide), by rw [up_ne (Or.inr (by decide))]; exact h4, by rw [up_ne (Or.inr (by decide))]; exact h14⟩
    obtain ⟨C', R', a1, a2, -, a3, a4, a5, a6⟩ := adS (n := n) hJ hn vt st1 (by rw [z]; decide) (by rw [z]; decide)
    obtain ⟨f1, f2⟩ := adS_f a4 a5 a6
    refine Or.inl ⟨C', R', ?_, ?_, a3, ?_, ?_, ?_, CN_t (CN_u (by decide)) f1, RN_t (RN_u (by decide)) f2⟩
    · rw [ec, b_Img_readNumber_82, lt, up_self, if_neg (fun w => ile.mpr w q.1), if_pos q.2, a1, Option.bind_some]
    · rw [er, if_pos q, b_Mod_takeNumber_98, lt, a2, Option.bind_some]
    · rw [a4 15 (by decide), up_self, a6 7 (by decide) (by decide) (by decide) (by decide), up_self]
    · rw [a6 7 (by decide) (by decide) (by decide) (by decide), up_self]; exact q.1
    · rw [a6 7 (by decide) (by decide) (by decide) (by decide), up_self]; exact q.2
  · refine Or.inr ⟨up (up C 15 3 v) 15 4 (nI (tP T N p)), up (up R MO 14 (nI (tP T N p))) MO 7 v, ?_, ?_, ⟨?_, ?_, TXc_u (TXc_u ra.1 (Or.inl (by decide)) (by decide)) (Or.inl (by decide)) (by decide)⟩, CN_t (CN_u (by decide)) (CN_u (by decide)), RN_t (RN_u (by decide)) (RN_u (by decide))⟩
    · rw [ec, b_Img_readNumber_82, lt, up_self]
      by_cases w1 : v < lo
      · rw [if_pos w1, b_Img_readNumber_101, lt]
      · have w2 : ¬ v ≤ hi := fun w2 => q ⟨Classical.byContradiction fun y => w1 (ile.mp y), w2⟩
        rw [if_neg w1, if_neg w2, b_Img_readNumber_101, lt]
    · rw [er, if_neg q, b_Mod_takeNumber_98, lt, stp0 (by rw [up_ne (Or.inr (by decide)), up_self]; exact q1), Option.bind_some]
    · rw [up_ne (Or.inr (by decide)), up_self]; exact q1
    · rw [up_ne (Or.inr (by decide)), up_self, up_self, if_neg q2]
/-- a number -/
theorem tn {T : Nat → Int32} {N K k n : Nat} {J : JM} {C R : IM} {lo hi sg : Int32} (hJ : JOK J) (hn : 1000 ≤ n) (vt : VT T N) (h : ST T N K k C R) (hs : (0 ≤ lo ∧ sg = 0) ∨ (¬ 0 ≤ lo ∧ sg = 1)) : (∃ k' C' R', f_Img_readNumber lo hi C = some (1, C') ∧ f_Mod_takeNumber n J lo hi sg R = some R' ∧ k < k' ∧ ST T N K k' C' R' ∧ C' 15 3 = R' MO 7 ∧ lo ≤ R' MO 7 ∧ R' MO 7 ≤ hi ∧ CN C C' ∧ RN R R') ∨ ∃ C' R', f_Img_readNumber lo hi C = some (0, C') ∧ f_Mod_takeNumber n J lo hi sg R = some R' ∧ FL T N C' R' ∧ CN C C' ∧ RN R R' := by
  obtain ⟨ra, rb, h4, h14⟩ := id h
  have c11 : C 1 1 = nI (tC T N k) := ra.2.2.2.2.1
  have c12 : C 1 2 = nI (tP T N k) := ra.2.2.2.2.2.1
  have r12 : R MO 12 = nI (tP T N k) := rb.2.2.1
  have t1 : C 1 1 = 173 ↔ tC T N k = 173 := by rw [c11]; exact tkc (w := 173) vt (by decide)
  have t2 : R MO 10 = 445 ↔ tC T N k = 173 := tkE (w := 173) vt rb.2.1 (by decide) (by decide)
  have e45 : (400 + 45 : Int32) = 445 := rfl
  by_cases m : ¬ 0 ≤ lo ∧ tC T N k = 173
  · have s1 : sg = 1 := by
      rcases hs with y | y
      · exact absurd y.1 m.1
      · exact y.2
    obtain ⟨C1, R1, a1, a2, -, a3, a4, a5, a6⟩ := adS (n := n) hJ hn vt h (by rw [m.2]; decide) (by rw [m.2]; decide)
    obtain ⟨f1, f2⟩ := adS_f a4 a5 a6
    have ec : f_Img_readNumber lo hi C = b_Img_readNumber_44 lo hi (nI (tP T N k)) 1 C1 := by
      rw [f_Img_readNumber, if_neg m.1, if_pos (t1.mpr m.2), if_neg (show ¬ (1 : Int32) = 0 by decide), a1, Option.bind_some, c12]
    have er : f_Mod_takeNumber n J lo hi sg R = b_Mod_takeNumber_35 n J lo hi (nI (tP T N k)) 1 R1 := by
      rw [f_Mod_takeNumber, s1, if_neg (show ¬ (1 : Int32) = 0 by decide), f_Mod_is, Option.bind_some, e45, if_pos (t2.mpr m.2), if_neg (show ¬ (1 : Int32) = 0 by decide), if_neg (show ¬ (1 : Int32) = 0 by decide), a2, Option.bind_some, r12]
    rw [ec, er]
    rcases tn44 (n := n) (p := k) (lo := lo) (hi := hi) (y := 1) hJ hn vt a3 with ⟨C', R', b1, b2, b3, b4, b5, b6, b7, b8⟩ | ⟨C', R', b1, b2, b3, b7, b8⟩
    · exact Or.inl ⟨k + 1 + 1, C', R', b1, b2, by omega, b3, b4, b5, b6, CN_t f1 b7, RN_t f2 b8⟩
    · exact Or.inr ⟨C', R', b1, b2, b3, CN_t f1 b7, RN_t f2 b8⟩
  · have ec : f_Img_readNumber lo hi C = b_Img_readNumber_44 lo hi (nI (tP T N k)) 0 C := by
      rw [f_Img_readNumber]
      by_cases q : 0 ≤ lo
      · rw [if_pos q, b_Img_readNumber_29, b_Img_readNumber_30, if_pos rfl, c12]
      · rw [if_neg q, if_neg (fun e => m ⟨q, t1.mp e⟩), if_pos rfl, c12]
    have er : f_Mod_takeNumber n J lo hi sg R = b_Mod_takeNumber_35 n J lo hi (nI (tP T N k)) 0 R := by
      rw [f_Mod_takeNumber]
      rcases hs with y | y
      · rw [if_pos y.2, b_Mod_takeNumber_23, b_Mod_takeNumber_24, if_pos rfl, r12]
      · rw [y.2, if_neg (show ¬ (1 : Int32) = 0 by decide), f_Mod_is, Option.bind_some, e45, if_neg (fun e => m ⟨y.1, t2.mp e⟩), if_pos rfl, if_pos rfl, r12]
    rw [ec, er]
    rcases tn44 (n := n) (p := k) (lo := lo) (hi := hi) (y := 0) hJ hn vt h with ⟨C', R', b1, b2, b3, b4, b5, b6, b7, b8⟩ | ⟨C', R', b1, b2, b3, b7, b8⟩
    · exact Or.inl ⟨k + 1, C', R', b1, b2, by omega, b3, b4, b5, b6, b7, b8⟩
    · exact Or.inr ⟨C', R', b1, b2, b3, b7, b8⟩
