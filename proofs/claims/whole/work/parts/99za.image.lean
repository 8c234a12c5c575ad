/-! image: all lines -/
def LPi (x : Int32) (tl : Int32 → Nat → Prop) (m : Nat) (T : Nat → Int32) (N : Nat) (R : IM) (cl : Option (Int32 × IM)) (rf : Option IM) : Prop := ∃ r C', cl = some (r, C') ∧ TXc T N C' ∧ ((r = -1 ∧ ∃ R', rf = some R' ∧ R' MO 14 = -1 ∧ (x = 1 → QM tl m C' R') ∧ RX x R R') ∨ (¬ r = -1 ∧ (x = 0 → ∃ R', rf = some R' ∧ R' MO 14 = r ∧ 0 ≤ r ∧ RX 0 R R')))
theorem l52_0 {n m f : Nat} {J : JM} {j : Int32} {C : IM} : l_Img_read_52 n m J (f + 1) 0 j C = some (if C 15 4 = -1 then C 1 2 else C 15 4, C) := by
  rw [l_Img_read_52, if_pos rfl, b_Img_read_107, if_pos rfl, b_Img_read_125, b_Img_read_147, b_Img_read_147]
  by_cases c : C 15 4 = -1
  · rw [if_pos c, if_pos c]; exact ite_self _
  · rw [if_neg c, if_neg c]; exact ite_self _
theorem l52_s {n m f : Nat} {J : JM} {j e : Int32} {C C2 : IM} (hj : ¬ (900 : Int32) ≤ j) (h1 : ¬ C 1 1 = 100) (h : csE (f_Img_readLine n m C) = some (e, C2)) (he : e = 0 ∨ e = 1) : l_Img_read_52 n m J (f + 1) 1 j C = l_Img_read_52 n m J f e (j + 1) C2 := by
  rw [l_Img_read_52, if_neg hj, if_neg (show ¬ (1 : Int32) = 0 by decide), if_neg h1]
  rw [csE] at h
  cases hl : f_Img_readLine n m C with
  | none => rw [hl] at h; cases h
  | some v =>
    rw [hl, Option.bind_some] at h
    rw [Option.bind_some]
    by_cases g : v.1 = 0
    · rw [if_pos g] at h
      have e1 : (0 : Int32) = e := congrArg Prod.fst (Option.some.inj h)
      have e2 : v.2 = C2 := congrArg Prod.snd (Option.some.inj h)
      rw [if_pos g, b_Img_read_99, b_Img_read_100, ← e1, e2]
    · rw [if_neg g] at h
      rw [if_neg g, h, Option.bind_some]
      rcases he with he | he <;> rw [he] <;> rfl
theorem l31_0 {n f : Nat} {J : JM} {x : Int32} {R : IM} (h : 0 ≤ R MO 14) : l_Mod_readImage_31 n J (f + 1) x R = some R := by
  rw [l_Mod_readImage_31, if_pos h, b_Mod_readImage_199]
theorem lpi {x : Int32} {tl : Int32 → Nat → Prop} {m : Nat} {T : Nat → Int32} {N K n : Nat} {J : JM} (hx : x = 0 ∨ x = 1) (hm : isMch m) (hJ : JOK J) (hn : 1000 ≤ n) (vt : VT T N) : ∀ (d f f' k j : Nat) (fs : Int32) (C R : IM), k + d = K → d + 1 < f → d + 1 < f' → 2 * j ≤ k → (fs = 0 ∨ tC T N k ≠ 35) → LI x tl m T N K k C R → LPi x tl m T N R (l_Img_read_52 n m J f 1 (nI j) C) (l_Mod_readImage_31 n J f' fs R) := by
  intro d
  induction d using Nat.strongRecOn with
  | _ d ih =>
    intro f f' k j fs C R hd hf hf' hj hfs h
    obtain ⟨f, rfl⟩ : ∃ e, f = e + 1 + 1 := ⟨f - 2, by omega⟩
    obtain ⟨f', rfl⟩ : ∃ e, f' = e + 1 + 1 := ⟨f' - 2, by omega⟩
    have st := h.1
    have kb : k ≤ 900 := by have := st.1.2.1.2.2.2; omega
    have j9 : ¬ (900 : Int32) ≤ nI j := nk (N := 900) (by omega) (by decide)
    have h14 : R MO 14 = -1 := st.2.2.2
    have c11 : C 1 1 = nI (tC T N k) := st.1.2.2.2.2.1
    have t1 : C 1 1 = 100 ↔ tC T N k = 100 := by rw [c11]; exact tkc (w := 100) vt (by decide)
    have t2 : R MO 10 = 199 ↔ tC T N k = 100 := tkE (w := 100) vt st.2.1.2.1 (by decide) (by decide)
    have t3 : R MO 10 = 43 ↔ tC T N k = 35 := tkE (w := 35) vt st.2.1.2.1 (by decide) (by decide)
    by_cases z : tC T N k = 100
    · refine ⟨-1, C, ?_, st.1.1, Or.inl ⟨rfl, R, ?_, h14, h.2.2.2.2.2.2, RX_0⟩⟩
      · rw [l_Img_read_52, if_neg j9, if_neg (show ¬ (1 : Int32) = 0 by decide), if_pos (t1.mpr z), b_Img_read_107, if_neg (show ¬ (1 : Int32) = 0 by decide), if_pos (t1.mpr z)]
      · rw [l_Mod_readImage_31, h14, if_neg ng1, f_Mod_tokenIsEnd, Option.bind_some, if_pos (t2.mpr z), if_neg (show ¬ (1 : Int32) = 0 by decide), b_Mod_readImage_199]
    have er : l_Mod_readImage_31 n J (f' + 1 + 1) fs R = Option.bind (rsE n J (rLn n J R)) (l_Mod_readImage_31 n J (f' + 1) 0) := by
      have e1 : l_Mod_readImage_31 n J (f' + 1 + 1) fs R = b_Mod_readImage_84 n J (l_Mod_readImage_31 n J (f' + 1)) R := by
        rw [l_Mod_readImage_31, h14, if_neg ng1, f_Mod_tokenIsEnd, Option.bind_some, if_neg (fun y => z (t2.mp y)), if_pos rfl]
        rcases hfs with w | w
        · rw [if_pos w]
        · rw [if_neg (fun y => w (t3.mp y))]; exact ite_self _
      rw [e1, r84, rsE]
      cases rLn n J R with
      | none => rfl
      | some a => rfl
    rcases SC_of hm hJ hn vt (L_line (n := n) hx hm hJ hn vt h) (L_line (n := n) (Or.inl rfl) hm hJ hn vt (LI_0 h)) with ⟨k', C', R', a1, a2, a3, a4, a5⟩ | ⟨C', a1, a2, a3⟩
    · have kK := a4.1.1.2.2.1
      have rc2 := ih (K - k') (by omega) (f + 1) (f' + 1) k' (j + 1) 0 C' R' (by omega) (by omega) (by omega) (by omega) (Or.inl rfl) a4
      rw [l52_s j9 (fun y => z (t1.mp y)) a1 (Or.inr rfl), nk1, er, a2, Option.bind_some]
      obtain ⟨r, C2, y1, yT, y2⟩ := rc2
      refine ⟨r, C2, y1, yT, ?_⟩
      rcases y2 with ⟨w1, R2, w2, w3, w4, w5⟩ | ⟨w1, w2⟩
      · exact Or.inl ⟨w1, R2, w2, w3, w4, RX_t a5 w5⟩
      · exact Or.inr ⟨w1, fun x0 => by
          obtain ⟨R2, v1, v2, v3, v4⟩ := w2 x0
          exact ⟨R2, v1, v2, v3, RX_t (x0 ▸ a5) v4⟩⟩
    · rw [l52_s j9 (fun y => z (t1.mp y)) a1 (Or.inl rfl), l52_0, er]
      refine ⟨_, C', rfl, a2.2, Or.inr ⟨a2.1, fun x0 => ?_⟩⟩
      obtain ⟨R', w1, w2, w3⟩ := a3 x0
      refine ⟨R', ?_, w2.2.1, ?_, w3⟩
      · rw [w1, Option.bind_some, l31_0 w2.1]
      · rw [← w2.2.1]; exact w2.1
theorem rdCl {m : Nat} {C : IM} : f_Img_readClear m C = csE (cCl m C) := by
  rw [f_Img_readClear, csE, cCl]
  cases f_Rdr_advance C with
  | none => rfl
  | some a =>
    rw [Option.bind_some, Option.bind_some]
    cases f_Img_readAny a with
    | none => rfl
    | some v =>
      rw [Option.bind_some, Option.bind_some]
      by_cases g : v.1 = 0
      · rw [if_pos g, if_pos g, Option.bind_some, if_pos rfl]
      · rw [if_neg g, if_neg g, Option.bind_some, if_neg (show ¬ (1 : Int32) = 0 by decide), lt, f_Rdr_take]
        by_cases q : up v.2 m 0 (v.2 15 3) 1 1 = 187
        · rw [if_pos q]
          cases f_Rdr_advance (up v.2 m 0 (v.2 15 3)) with
          | none => rfl
          | some b => rfl
        · rw [if_neg q]; rfl
def cTop (n m : Nat) (J : JM) (C : IM) : Option (Int32 × IM) := if (C 1 1 : Int32) = (35 : Int32) then (Option.bind (f_Img_readClear m C) fun v8 => l_Img_read_52 n m J n (if (v8.1 : Int32) = 0 then 0 else 1) 0 v8.2) else (b_Img_read_44 n m J C)
theorem tpi {x : Int32} {tl : Int32 → Nat → Prop} {m : Nat} {T : Nat → Int32} {N K n : Nat} {J : JM} {C R : IM} (hx : x = 0 ∨ x = 1) (hm : isMch m) (hJ : JOK J) (hn : 1000 ≤ n) (vt : VT T N) (h : LI x tl m T N K 0 C R) : LPi x tl m T N R (cTop n m J C) (l_Mod_readImage_31 n J n 1 R) := by
  have st := h.1
  have kb : K ≤ 900 := st.1.2.1.2.2.2
  have h14 : R MO 14 = -1 := st.2.2.2
  have c11 : C 1 1 = nI (tC T N 0) := st.1.2.2.2.2.1
  have t1 : C 1 1 = 35 ↔ tC T N 0 = 35 := by rw [c11]; exact tkc (w := 35) vt (by decide)
  have t2 : R MO 10 = 199 ↔ tC T N 0 = 100 := tkE (w := 100) vt st.2.1.2.1 (by decide) (by decide)
  have t3 : R MO 10 = 43 ↔ tC T N 0 = 35 := tkE (w := 35) vt st.2.1.2.1 (by decide) (by decide)
  by_cases z : tC T N 0 = 35
  rotate_left
  · rw [cTop, if_neg (fun y => z (t1.mp y)), b_Img_read_44, b_Img_read_49]
    exact lpi hx hm hJ hn vt K n n 0 0 1 C R (by omega) (by omega) (by omega) (by omega) (Or.inr z) h
  obtain ⟨f, hf⟩ : ∃ f, n = f + 1 + 1 := ⟨n - 2, by omega⟩
  have er : l_Mod_readImage_31 n J n 1 R = Option.bind (rsE n J (rCl n J R)) (l_Mod_readImage_31 n J (f + 1) 0) := by
    have e1 : ∀ f, l_Mod_readImage_31 n J (f + 1) 1 R = Option.bind (rsE n J (rCl n J R)) (l_Mod_readImage_31 n J f 0) := fun f => by
      rw [l_Mod_readImage_31, h14, if_neg ng1, f_Mod_tokenIsEnd, Option.bind_some, if_neg (show ¬ R MO 10 = 199 from fun y => by have := t2.mp y; omega), if_pos rfl, if_neg (show ¬ (1 : Int32) = 0 by decide), if_pos (t3.mpr z), rsE, rCl]
      cases f_Mod_step n J R with
      | none => rfl
      | some a =>
        rw [Option.bind_some, Option.bind_some]
        cases f_Mod_takeAny n J a with
        | none => rfl
        | some b =>
          rw [Option.bind_some, Option.bind_some]
          by_cases q : b MO 6 = 0
          · rw [if_pos q, if_pos q]; rfl
          · rw [if_neg q, if_neg q]; rfl
    have := e1 (f + 1)
    rw [← hf] at this
    exact this
  rw [cTop, if_pos (t1.mpr z), rdCl, er]
  rcases SC_of hm hJ hn vt (L_cl (n := n) hx hm hJ hn vt h z) (L_cl (n := n) (Or.inl rfl) hm hJ hn vt (LI_0 h) z) with ⟨k', C', R', a1, a2, a3, a4, a5⟩ | ⟨C', a1, a2, a3⟩
  · have kK := a4.1.1.2.2.1
    have rc2 := lpi hx hm hJ hn vt (K - k') n (f + 1) k' 0 0 C' R' (by omega) (by omega) (by omega) (by omega) (Or.inl rfl) a4
    rw [a1, a2, Option.bind_some, Option.bind_some]
    obtain ⟨r, C2, y1, yT, y2⟩ := rc2
    refine ⟨r, C2, y1, yT, ?_⟩
    rcases y2 with ⟨w1, R2, w2, w3, w4, w5⟩ | ⟨w1, w2⟩
    · exact Or.inl ⟨w1, R2, w2, w3, w4, RX_t a5 w5⟩
    · exact Or.inr ⟨w1, fun x0 => by
        obtain ⟨R2, v1, v2, v3, v4⟩ := w2 x0
        exact ⟨R2, v1, v2, v3, RX_t (x0 ▸ a5) v4⟩⟩
  · have l0 : l_Img_read_52 n m J n 0 0 C' = some (if C' 15 4 = -1 then C' 1 2 else C' 15 4, C') := by
      have : ∀ f, l_Img_read_52 n m J (f + 1) 0 0 C' = some (if C' 15 4 = -1 then C' 1 2 else C' 15 4, C') := fun f => l52_0
      have := this (f + 1)
      rw [← hf] at this
      exact this
    refine ⟨_, C', ?_, a2.2, Or.inr ⟨a2.1, fun x0 => ?_⟩⟩
    · rw [a1, Option.bind_some]; exact l0
    · obtain ⟨R', w1, w2, w3⟩ := a3 x0
      refine ⟨R', ?_, w2.2.1, ?_, w3⟩
      · rw [w1, Option.bind_some, l31_0 w2.1]
      · rw [← w2.2.1]; exact w2.1
