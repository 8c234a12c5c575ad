/-! image: lines -/
def LI (x : Int32) (tl : Int32 → Nat → Prop) (m : Nat) (T : Nat → Int32) (N K k : Nat) (C R : IM) : Prop := ST T N K k C R ∧ R MO 6 = x ∧ C 15 2 = R MO 4 ∧ (∃ p, p ≤ 64 ∧ R MO 4 = nI p) ∧ C (m + 13) 5 = R MO 5 ∧ (∃ p, p ≤ 16 ∧ R MO 5 = nI p) ∧ (x = 1 → QM tl m C R)
def RX (x : Int32) (R R' : IM) : Prop := (∀ b, b ≠ MO → (x = 1 → b < 119 ∨ 127 < b) → R' b = R b) ∧ ∀ j, j ∉ [4, 5, 7, 10, 11, 12, 13, 14] → (x = 1 → j ∉ [34, 42, 43, 45]) → R' MO j = R MO j
theorem RX_t {x : Int32} {A B C : IM} (h : RX x A B) (g : RX x B C) : RX x A C := ⟨fun b z y => (g.1 b z y).trans (h.1 b z y), fun j z y => (g.2 j z y).trans (h.2 j z y)⟩
theorem RX_n {x : Int32} {A B : IM} (h : RN A B) : RX x A B := ⟨fun b z _ => h.1 b z, fun j z _ => h.2 j (fun y => z (by revert y; simp only [List.mem_cons, List.not_mem_nil, or_false]; omega))⟩
theorem RX_0 {x : Int32} {A : IM} : RX x A A := ⟨fun _ _ _ => rfl, fun _ _ _ => rfl⟩
theorem RX_u {x : Int32} {A : IM} {j : Nat} {v : Int32} (h : j ∈ [4, 5, 7, 10, 11, 12, 13, 14]) : RX x A (up A MO j v) := ⟨fun b z _ => fu z, fun i hi _ => up_ne (Or.inr (fun z => hi (by rw [z]; exact h)))⟩
theorem RX_u1 {A : IM} {j : Nat} {v : Int32} (h : j ∈ [34, 42, 43, 45]) : RX 1 A (up A MO j v) := ⟨fun b z _ => fu z, fun i _ hi => up_ne (Or.inr (fun z => hi rfl (by rw [z]; exact h)))⟩
theorem RX_a {A : IM} {a j : Nat} {v : Int32} (h : 119 ≤ a ∧ a ≤ 127) : RX 1 A (up A a j v) := ⟨fun b _ y => fu (by have := y rfl; omega), fun i _ _ => by rw [fu (show MO ≠ a by show 102 ≠ a; omega)]⟩
theorem LI_w {x : Int32} {tl : Int32 → Nat → Prop} {m : Nat} {T : Nat → Int32} {N K k : Nat} {C C' R R' : IM} (h : LI x tl m T N K k C R) (h1 : ∀ b, b < 16 → C' b = C b) (h2 : C' (m + 13) 5 = C (m + 13) 5) (h3 : ∀ j, j ∈ [2, 4, 5, 6, 10, 11, 12, 13, 14] → R' MO j = R MO j) (h4 : R' A_signs = R A_signs) (h5 : x = 1 → QM tl m C' R') : LI x tl m T N K k C' R' := by
  obtain ⟨⟨ra, rb, s4, s14⟩, a6, a2, a4, a5, a7, a8⟩ := h
  have s : ∀ j, j ∈ [2, 10, 11, 12, 13] → j ∈ [2, 4, 5, 6, 10, 11, 12, 13, 14] := by decide
  refine ⟨⟨RA_c (h1 1 (by decide)) (h1 2 (by decide)) (h1 3 (by decide)) (h1 4 (by decide)) (h1 5 (by decide)) ra, RB_c rb (fun j hj => h3 j (s j hj)) h4, by rw [h1 15 (by decide)]; exact s4, by rw [h3 14 (by decide)]; exact s14⟩, ?_, ?_, ?_, ?_, ?_, h5⟩
  · rw [h3 6 (by decide)]; exact a6
  · rw [h1 15 (by decide), h3 4 (by decide)]; exact a2
  · rw [h3 4 (by decide)]; exact a4
  · rw [h2, h3 5 (by decide)]; exact a5
  · rw [h3 5 (by decide)]; exact a7
theorem LI_n {x : Int32} {tl : Int32 → Nat → Prop} {m : Nat} {T : Nat → Int32} {N K k k' : Nat} {C C' R R' : IM} (hm : isMch m) (h : LI x tl m T N K k C R) (st : ST T N K k' C' R') (hc : CN C C') (hr : RN R R') : LI x tl m T N K k' C' R' := by
  obtain ⟨-, a6, a2, a4, a5, a7, a8⟩ := h
  have m16 : 16 ≤ m := by rcases hm with rfl | rfl | rfl <;> decide
  refine ⟨st, ?_, ?_, ?_, ?_, ?_, fun z => QM_c (a8 z) (fun i hi => hc.1 _ (by omega) (by omega)) (fun b z1 z2 => hr.1 b (by show b ≠ 102; omega)) (fun j hj => hr.2 j (fun y => ?_))⟩
  · rw [hr.2 6 (by decide)]; exact a6
  · rw [hc.2, hr.2 4 (by decide)]; exact a2
  · rw [hr.2 4 (by decide)]; exact a4
  · rw [hc.1 _ (by omega) (by omega), hr.2 5 (by decide)]; exact a5
  · rw [hr.2 5 (by decide)]; exact a7
  · revert hj y
    simp only [List.mem_cons, List.not_mem_nil, or_false]
    omega
def OUi (x : Int32) (tl : Int32 → Nat → Prop) (m : Nat) (T : Nat → Int32) (N K k : Nat) (R : IM) (cl : Option (Int32 × IM)) (rf : Option IM) : Prop := (∃ k' C' R', cl = some (1, C') ∧ rf = some R' ∧ k < k' ∧ LI x tl m T N K k' C' R' ∧ RX x R R') ∨ ∃ g C', cl = some (g, C') ∧ (g = 0 ∨ g = 1 ∧ ¬ C' 1 1 = 187) ∧ (x = 0 → ∃ R', rf = some R' ∧ FL T N C' R' ∧ RX 0 R R')
theorem FL_u {T : Nat → Int32} {N : Nat} {C R : IM} {j : Nat} {v : Int32} (h : FL T N C R) (hj : j ≠ 14) : FL T N C (up R MO j v) := by
  unfold FL at h ⊢
  rw [up_ne (Or.inr (fun z => hj z.symm))]
  exact h
theorem b01 {g : Int32} (h : g = 0 ∨ g = 1) {C : IM} : chk (((g, C) : Int32 × IM).1 = 0 ∨ ((g, C) : Int32 × IM).1 = 1) (some (g, C)) = some (g, C) := chk_i h
theorem tnA {T : Nat → Int32} {N K k n : Nat} {J : JM} {C R : IM} (hJ : JOK J) (hn : 1000 ≤ n) (vt : VT T N) (h : ST T N K k C R) : (∃ k' C' R', f_Img_readAny C = some (1, C') ∧ f_Mod_takeAny n J R = some R' ∧ k < k' ∧ ST T N K k' C' R' ∧ C' 15 3 = R' MO 7 ∧ CN C C' ∧ RN R R') ∨ ∃ C' R', f_Img_readAny C = some (0, C') ∧ f_Mod_takeAny n J R = some R' ∧ FL T N C' R' ∧ CN C C' ∧ RN R R' := by
  rcases tn (n := n) (lo := -9999999) (hi := 9999999) (sg := 1) hJ hn vt h (Or.inr ⟨by decide, rfl⟩) with ⟨k', C', R', a1, a2, a3, a4, a5, -, -, a6, a7⟩ | ⟨C', R', a1, a2, a3, a6, a7⟩
  · refine Or.inl ⟨k', C', R', ?_, ?_, a3, a4, a5, a6, a7⟩
    · rw [f_Img_readAny, a1, Option.bind_some]; exact b01 (Or.inr rfl)
    · rw [f_Mod_takeAny, a2, Option.bind_some]
  · refine Or.inr ⟨C', R', ?_, ?_, a3, a6, a7⟩
    · rw [f_Img_readAny, a1, Option.bind_some]; exact b01 (Or.inl rfl)
    · rw [f_Mod_takeAny, a2, Option.bind_some]
theorem tad {n : Nat} {J : JM} {R : IM} {w : Int32} (h : 0 ≤ R MO 14) : f_Mod_takeAfter n J w R = some (0, R) := by
  rw [f_Mod_takeAfter, if_pos h, b_Mod_takeAfter_15]
/-- a number behind a word, if it stands here -/
theorem tO {T : Nat → Int32} {N K k n w : Nat} {J : JM} {C R : IM} (hJ : JOK J) (hn : 1000 ≤ n) (vt : VT T N) (hw : w < 50) (h : ST T N K k C R) : (∃ k' C' R', f_Img_readOptional (nI w) C = some (1, C') ∧ f_Mod_takeAfter n J (nI (m2r w)) R = some (C' 15 3, R') ∧ k ≤ k' ∧ ST T N K k' C' R' ∧ CN C C' ∧ RN R R') ∨ ∃ v C' R', f_Img_readOptional (nI w) C = some (0, C') ∧ f_Mod_takeAfter n J (nI (m2r w)) R = some (v, R') ∧ FL T N C' R' ∧ CN C C' ∧ RN R R' := by
  obtain ⟨ra, rb, h4, h14⟩ := id h
  have c11 : C 1 1 = nI (tC T N k) := ra.2.2.2.2.1
  have t1 : C 1 1 = nI w ↔ tC T N k = w := by rw [c11]; exact tkc vt (by omega)
  have t2 : R MO 10 = nI (m2r w) ↔ tC T N k = w := tkE vt rb.2.1 (V50 w hw) (by omega)
  have st1 : ST T N K k (up C 15 3 0) R := ⟨RA_u ra (by decide), rb, by rw [up_ne (Or.inr (by decide))]; exact h4, h14⟩
  have e1 : up C 15 3 0 1 1 = C 1 1 := by rw [fu (by decide)]
  by_cases z : tC T N k = w
  · obtain ⟨C1, R1, a1, a2, -, a3, a4, a5, a6⟩ := adS (n := n) hJ hn vt st1 (by omega) (by omega)
    obtain ⟨f1, f2⟩ := adS_f a4 a5 a6
    rcases tnA (n := n) hJ hn vt a3 with ⟨k', C', R', b1, b2, b3, b4, b5, b6, b7⟩ | ⟨C', R', b1, b2, b3, b6, b7⟩
    · refine Or.inl ⟨k', C', R', ?_, ?_, by omega, b4, CN_t (CN_u (by decide)) (CN_t f1 b6), RN_t f2 b7⟩
      · rw [f_Img_readOptional, lt, e1, if_pos (t1.mpr z), a1, Option.bind_some]; exact b1
      · rw [f_Mod_takeAfter, h14, if_neg ng1, if_pos (t2.mpr z), a2, Option.bind_some, b2, Option.bind_some, b5]
    · refine Or.inr ⟨R' MO 7, C', R', ?_, ?_, b3, CN_t (CN_u (by decide)) (CN_t f1 b6), RN_t f2 b7⟩
      · rw [f_Img_readOptional, lt, e1, if_pos (t1.mpr z), a1, Option.bind_some]; exact b1
      · rw [f_Mod_takeAfter, h14, if_neg ng1, if_pos (t2.mpr z), a2, Option.bind_some, b2, Option.bind_some]
  · refine Or.inl ⟨k, up C 15 3 0, R, ?_, ?_, Nat.le_refl _, st1, CN_u (by decide), RN_0⟩
    · rw [f_Img_readOptional, lt, e1, if_neg (fun y => z (t1.mp y))]
    · rw [f_Mod_takeAfter, h14, if_neg ng1, if_neg (fun y => z (t2.mp y)), b_Mod_takeAfter_15, up_self]
/-- at -/
def rAt (n : Nat) (J : JM) (R : IM) : Option IM := Option.bind (f_Mod_step n J R) fun v40 => Option.bind (f_Mod_takeNumber n J 0 63 0 v40) fun v42 => some (up v42 MO 4 (v42 MO 7))
theorem L_at {x : Int32} {tl : Int32 → Nat → Prop} {m : Nat} {T : Nat → Int32} {N K k n : Nat} {J : JM} {C R : IM} (hm : isMch m) (hJ : JOK J) (hn : 1000 ≤ n) (vt : VT T N) (h : LI x tl m T N K k C R) (z : tC T N k = 45) : OUi x tl m T N K k R (f_Img_readAt C) (rAt n J R) := by
  obtain ⟨C1, R1, a1, a2, -, a3, a4, a5, a6⟩ := adS (n := n) hJ hn vt h.1 (by omega) (by omega)
  obtain ⟨f1, f2⟩ := adS_f a4 a5 a6
  rcases tn (n := n) (lo := 0) (hi := 63) (sg := 0) hJ hn vt a3 (Or.inl ⟨by decide, rfl⟩) with ⟨k', C', R', b1, b2, b3, b4, b5, b6, b7, b8, b9⟩ | ⟨C', R', b1, b2, b3, b8, b9⟩
  · have li := LI_n hm h b4 (CN_t f1 b8) (RN_t f2 b9)
    refine Or.inl ⟨k', up C' 15 2 (C' 15 3), up R' MO 4 (R' MO 7), ?_, ?_, by omega, ?_, RX_t (RX_n (RN_t f2 b9)) (RX_u (by decide))⟩
    · rw [f_Img_readAt, a1, Option.bind_some, b1, Option.bind_some, if_neg (show ¬ (1 : Int32) = 0 by decide)]; rfl
    · rw [rAt, a2, Option.bind_some, b2, Option.bind_some]
    · obtain ⟨⟨ra, rb, s4, s14⟩, i6, i2, i4, i5, i7, i8⟩ := li
      have m16 : 16 ≤ m := by rcases hm with rfl | rfl | rfl <;> decide
      have n0 : ¬ R' MO 7 < 0 := fun y => ile.mpr y b6
      refine ⟨⟨RA_u ra (by decide), RB_u rb (by decide), by rw [up_ne (Or.inr (by decide))]; exact s4, by rw [up_ne (Or.inr (by decide))]; exact s14⟩, by rw [up_ne (Or.inr (by decide))]; exact i6, by rw [up_self, up_self]; exact b5, ⟨(R' MO 7).toNatClampNeg, ?_, by rw [up_self]; exact nof n0⟩, by rw [fu (by omega), up_ne (Or.inr (by decide))]; exact i5, by rw [up_ne (Or.inr (by decide))]; exact i7, fun y => QM_c (i8 y) (fun i _ => fu (by omega)) (fun b z1 _ => fu (by show b ≠ 102; omega)) (fun j hj => up_ne (Or.inr (fun w => by subst w; revert hj; decide)))⟩
      rw [Int32.le_iff_toInt_le] at b7
      have := nat_of n0
      simp only [Int32.reduceToInt] at b7
      omega
  · refine Or.inr ⟨0, C', ?_, Or.inl rfl, fun _ => ⟨up R' MO 4 (R' MO 7), ?_, FL_u b3 (by decide), RX_t (RX_n (RN_t f2 b9)) (RX_u (by decide))⟩⟩
    · rw [f_Img_readAt, a1, Option.bind_some, b1, Option.bind_some, if_pos rfl]
    · rw [rAt, a2, Option.bind_some, b2, Option.bind_some]
