/-! image: an instruction's line -/
def fC (q : Nat) : Nat := if q = 0 then 23 else if q = 1 then 24 else if q = 2 then 25 else if q = 3 then 32 else 42
def fLo (q : Nat) : Int32 := if q < 3 then 0 else if q = 3 then -32768 else -9999999
def fHi (q : Nat) : Int32 := if q < 3 then 7 else if q = 3 then 32767 else 9999999
def fSg (q : Nat) : Int32 := if q < 3 then 0 else 1
def fSh (q : Nat) : Int32 := if q = 0 then 5 else if q = 1 then 8 else if q = 2 then 11 else 16
def fV (q : Nat) (v x : Int32) : Int32 := if q = 4 then v else v ||| (x <<< (fSh q &&& 31))
def fT (q : Nat) (t x : Int32) : Int32 := if q = 4 then x else t
def pq (r : Int32) : Int32 := if (if 31 ≤ r ∧ r ≤ 33 then 1 else 0 : Int32) = 0 then (if r = (40 : Int32) then 3 else (if r = (51 : Int32) then 4 else (-1))) else (r - 31)
theorem q5 {q : Nat} (h : q < 5) : q = 0 ∨ q = 1 ∨ q = 2 ∨ q = 3 ∨ q = 4 := by omega
theorem cq_l {n m f q : Nat} {v t g j : Int32} {C : IM} (hq : q < 5) (hj : ¬ (900 : Int32) ≤ j) (h : C 1 1 = nI (fC q)) : l_Img_readInstruction_35 n m (f + 1) v t g j C = if (g &&& nI (2 ^ q)) = 0 then (Option.bind (f_Rdr_advance C) fun v10 => Option.bind (f_Img_readFieldNumber (nI (fC q)) v10) fun v12 => if (v12.1 : Int32) = 0 then (some (0, v12.2)) else l_Img_readInstruction_35 n m f (fV q v (v12.2 15 3)) (fT q t (v12.2 15 3)) (g ||| nI (2 ^ q)) (j + 1) v12.2) else b_Img_readInstruction_134 n m v t C := by
  rw [l_Img_readInstruction_35, if_neg hj, h]
  rcases q5 hq with rfl | rfl | rfl | rfl | rfl <;> rfl
theorem cq_n {n m f : Nat} {v t g j : Int32} {C : IM} (hj : ¬ (900 : Int32) ≤ j) (h : ∀ q, q < 5 → ¬ C 1 1 = nI (fC q)) : l_Img_readInstruction_35 n m (f + 1) v t g j C = b_Img_readInstruction_134 n m v t C := by
  rw [l_Img_readInstruction_35, if_neg hj, f_Img_fieldBit, if_neg (show ¬ C 1 1 = 23 from h 0 (by decide)), if_neg (show ¬ C 1 1 = 24 from h 1 (by decide)), if_neg (show ¬ C 1 1 = 25 from h 2 (by decide)), if_neg (show ¬ C 1 1 = 32 from h 3 (by decide)), if_neg (show ¬ C 1 1 = 42 from h 4 (by decide)), Option.bind_some, if_pos rfl]
theorem cq_f {q : Nat} {g : Int32} {C C' : IM} (hq : q < 5) (hg : g = 0 ∨ g = 1) (h : f_Img_readNumber (fLo q) (fHi q) C = some (g, C')) : f_Img_readFieldNumber (nI (fC q)) C = some (g, C') := by
  have e : f_Img_readFieldNumber (nI (fC q)) C = Option.bind (f_Img_readNumber (fLo q) (fHi q) C) fun v3 => chk ((v3.1 : Int32) = 0 ∨ (v3.1 : Int32) = 1) <| some (v3.1, v3.2) := by
    rcases q5 hq with rfl | rfl | rfl | rfl | rfl <;> rfl
  rw [e, h, Option.bind_some]
  exact b01 hg
theorem rq_l {n f : Nat} {J : JM} {v t g : Int32} {R : IM} (h14 : R MO 14 = -1) : l_Mod_instructionLine_30 n J (f + 1) v t g 1 R = if pq (R MO 10) < 0 then l_Mod_instructionLine_30 n J f v t g 0 R else if R MO 10 = 459 then l_Mod_instructionLine_30 n J f v t g 0 R else if (((g : Int32) >>> ((pq (R MO 10) : Int32) &&& 31)) &&& 1 : Int32) = (1 : Int32) then (Option.bind (f_Mod_fail R) fun v19 => b_Mod_instructionLine_135 n J (l_Mod_instructionLine_30 n J f) v t g 1 (pq (R MO 10)) v19) else (b_Mod_instructionLine_135 n J (l_Mod_instructionLine_30 n J f) v t g 1 (pq (R MO 10)) R) := by
  rw [l_Mod_instructionLine_30, if_neg (show ¬ (1 : Int32) = 0 by decide), h14, if_neg ng1, inF, Option.bind_some]
  by_cases c1 : pq (R MO 10) < 0
  · rw [if_pos c1]
    refine (if_pos (show pq (R MO 10) < 0 from c1)).trans ?_
    rw [b_Mod_instructionLine_113, b_Mod_instructionLine_114, if_pos rfl, b_Mod_instructionLine_135, if_pos rfl, b_Mod_instructionLine_281]
  · rw [if_neg c1]
    refine (if_neg (show ¬ pq (R MO 10) < 0 from c1)).trans ?_
    rw [f_Mod_is, Option.bind_some]
    have e59 : (400 + 59 : Int32) = 459 := rfl
    rw [e59]
    by_cases c2 : R MO 10 = 459
    · rw [if_pos c2, if_pos c2, if_neg (show ¬ (1 : Int32) = 0 by decide), if_pos rfl, b_Mod_instructionLine_135, if_pos rfl, b_Mod_instructionLine_281]
    · rw [if_neg c2, if_neg c2, if_pos rfl, if_neg (show ¬ (1 : Int32) = 0 by decide)]
      rfl
theorem rq_b {n q : Nat} {J : JM} {H : Int32 → Int32 → Int32 → Int32 → IM → Option IM} {v t g : Int32} {R : IM} (hq : q < 5) (h14 : R MO 14 = -1) : b_Mod_instructionLine_135 n J H v t g 1 (nI q) R = Option.bind (f_Mod_step n J R) fun v23 => Option.bind (f_Mod_takeNumber n J (fLo q) (fHi q) (fSg q) v23) fun v30 => H (fV q v (v30 MO 7)) (fT q t (v30 MO 7)) (g ||| nI (2 ^ q)) 1 v30 := by
  rw [b_Mod_instructionLine_135, if_neg (show ¬ (1 : Int32) = 0 by decide), h14, if_neg ng1]
  rcases q5 hq with rfl | rfl | rfl | rfl | rfl <;> rfl
theorem rq_0 {n q : Nat} {J : JM} {H : Int32 → Int32 → Int32 → Int32 → IM → Option IM} {v t g x : Int32} {R : IM} (h14 : 0 ≤ R MO 14) : b_Mod_instructionLine_135 n J H v t g 1 x R = H v t g 1 R := by
  rw [b_Mod_instructionLine_135, if_neg (show ¬ (1 : Int32) = 0 by decide), if_pos h14, b_Mod_instructionLine_281]
theorem rq_e {n f : Nat} {J : JM} {v t g x : Int32} {R : IM} (h : x = 0 ∨ 0 ≤ R MO 14) : l_Mod_instructionLine_30 n J (f + 1) v t g x R = b_Mod_instructionLine_284 n J v t R := by
  rw [l_Mod_instructionLine_30]
  by_cases c : x = 0
  · rw [if_pos c]
  · rw [if_neg c, if_pos (h.resolve_left c)]
theorem rq_s {n : Nat} {J : JM} {v t : Int32} {R : IM} (h : R MO 6 = 0) : b_Mod_instructionLine_284 n J v t R = some (up R MO 4 (R MO 4 + 1)) := by
  rw [b_Mod_instructionLine_284, if_pos h, b_Mod_instructionLine_311, lt]
theorem bit_t : ∀ g, g < 32 → ∀ q, q < 5 → ((((nI g : Int32) >>> ((nI q : Int32) &&& 31)) &&& 1 : Int32) = (1 : Int32) ↔ ¬ (nI g &&& nI (2 ^ q)) = 0) := by decide +kernel
theorem bit_o : ∀ g, g < 32 → ∀ q, q < 5 → nI g ||| nI (2 ^ q) = nI (g ||| 2 ^ q) ∧ g ||| 2 ^ q < 32 := by decide +kernel
theorem pq_q : ∀ q, q < 5 → pq (nI (m2r (fC q))) = nI q ∧ ¬ nI q < 0 ∧ ¬ nI (m2r (fC q)) = 459 ∧ fC q ∈ VL ∧ fC q ≠ 102 ∧ fC q ≠ 100 ∧ fC q ≠ 187 ∧ fC q < 50 := by decide +kernel
theorem pq_c : ∀ c ∈ VL, c ≠ 102 → (∀ q, q < 5 → c ≠ fC q) → pq (nI (m2r c)) < 0 := by decide +kernel
theorem fS_o : ∀ q, q < 5 → (0 ≤ fLo q ∧ fSg q = 0) ∨ (¬ 0 ≤ fLo q ∧ fSg q = 1) := by decide +kernel
/-- the class sets the code and goes on -/
theorem c134 {n m p : Nat} {v t : Int32} {C : IM} (hp : p < 64) (h : C 15 2 = nI p) (hm : 16 ≤ m) : b_Img_readInstruction_134 n m v t C = some (1, up (up (up C (m + 1) p v) (m + 2) p t) 15 2 (nI (p + 1))) := by
  have n0 : ¬ nI p < 0 := fun y => by have := (nlt (b := 0) (by omega) (by decide)).mp y; omega
  have n64 : ¬ (64 : Int32) ≤ nI p := nk (N := 64) hp (by decide)
  rw [b_Img_readInstruction_134, h]
  simp only [f_Mch_setCode, if_neg n0, if_neg n64, chk_i (show inb (nI p) 64 from nki hp (by decide)), lt, b_Mch_setCode_24, Option.bind_some, nkc (show p < 5000 by omega)]
  rw [fu (show 15 ≠ m + 2 by omega), fu (show 15 ≠ m + 1 by omega), h, nk1]
theorem LI_p {x : Int32} {tl : Int32 → Nat → Prop} {m p : Nat} {T : Nat → Int32} {N K k : Nat} {C R : IM} (hm : 16 ≤ m) (hp : p ≤ 64) (h : LI x tl m T N K k C R) : LI x tl m T N K k (up C 15 2 (nI p)) (up R MO 4 (nI p)) := by
  obtain ⟨⟨ra, rb, s4, s14⟩, i6, i2, i4, i5, i7, i8⟩ := h
  exact ⟨⟨RA_u ra (by decide), RB_u rb (by decide), by rw [up_ne (Or.inr (by decide))]; exact s4, by rw [up_ne (Or.inr (by decide))]; exact s14⟩, by rw [up_ne (Or.inr (by decide))]; exact i6, by rw [up_self, up_self], ⟨p, hp, up_self⟩, by rw [fu (by omega), up_ne (Or.inr (by decide))]; exact i5, by rw [up_ne (Or.inr (by decide))]; exact i7, fun y => QM_c (i8 y) (fun i _ => fu (by omega)) (fun b z1 _ => fu (by show b ≠ 102; omega)) (fun j hj => up_ne (Or.inr (fun w => by subst w; revert hj; decide)))⟩
theorem insl {x : Int32} {tl : Int32 → Nat → Prop} {m : Nat} {T : Nat → Int32} {N K n k0 p : Nat} {J : JM} (hx : x = 0 ∨ x = 1) (hm : isMch m) (hJ : JOK J) (hn : 1000 ≤ n) (vt : VT T N) (hp : p < 64) : ∀ (d f f' k j g : Nat) (v t : Int32) (C R : IM), K ≤ k + d → d < f → d + 2 < f' → 2 * j ≤ k → k0 < k → g < 32 → R MO 4 = nI p → LI x tl m T N K k C R → OUi x tl m T N K k0 R (l_Img_readInstruction_35 n m f v t (nI g) (nI j) C) (l_Mod_instructionLine_30 n J f' v t (nI g) 1 R) := by
  have hm16 := m16 hm
  intro d
  induction d with
  | zero =>
    intro f f' k j g v t C R hd hf hf' hj hk hg hp4 h
    obtain ⟨f, rfl⟩ : ∃ e, f = e + 1 := ⟨f - 1, by omega⟩
    obtain ⟨f', rfl⟩ : ∃ e, f' = e + 1 + 1 := ⟨f' - 2, by omega⟩
    obtain ⟨st, i6, i2, i4, i5, i7, i8⟩ := id h
    have kb : k ≤ 900 := by have := st.1.2.1.2.2.2; have := st.1.2.2.1; omega
    have j9 : ¬ (900 : Int32) ≤ nI j := nk (N := 900) (by omega) (by decide)
    have h14 : R MO 14 = -1 := st.2.2.2
    have c11 : C 1 1 = nI (tC T N k) := st.1.2.2.2.2.1
    have e134 : ∀ v t, b_Img_readInstruction_134 n m v t C = some (1, up (up (up C (m + 1) p v) (m + 2) p t) 15 2 (nI (p + 1))) := fun v t => c134 hp (i2.trans hp4) hm16
    by_cases z : ∃ q, q < 5 ∧ tC T N k = fC q
    rotate_left
    · -- nothing more
      have cl : l_Img_readInstruction_35 n m (f + 1) v t (nI g) (nI j) C = some (1, up (up (up C (m + 1) p v) (m + 2) p t) 15 2 (nI (p + 1))) := by
        rw [cq_n j9 (fun q hq y => z ⟨q, hq, (tkc vt (by have := (pq_q q hq).2.2.2.2.2.2.2; omega)).mp (c11.symm.trans y)⟩), e134]
      have pr : pq (R MO 10) < 0 := by
        by_cases y : tC T N k = 102
        · rcases st.2.1.2.1.2 y with w | w <;> rw [w] <;> decide
        · rw [st.2.1.2.1.1 y]
          exact pq_c _ (tC_V vt) y (fun q hq w => z ⟨q, hq, w⟩)
      have rl : l_Mod_instructionLine_30 n J (f' + 1 + 1) v t (nI g) 1 R = b_Mod_instructionLine_284 n J v t R := by
        rw [rq_l h14, if_pos pr, rq_e (Or.inl rfl)]
      rw [cl, rl]
      rcases hx with hx | hx
      · rw [rq_s (i6.trans hx), hp4, nk1]
        refine Or.inl ⟨k, _, _, rfl, rfl, hk, LI_p hm16 (by omega) (LI_w h (fun b hb => by rw [fu (by omega), fu (by omega)]) (by rw [fu (by omega), fu (by omega)]) (fun _ _ => rfl) rfl (fun y => by rw [hx] at y; exact absurd y (by decide))), RX_u (by decide)⟩
      · have er : b_Mod_instructionLine_284 n J v t R = some (up (up (up R A_code p v) A_codeTags p t) MO 4 (nI (p + 1))) := by
          rw [b_Mod_instructionLine_284, if_neg (fun y => by rw [i6, hx] at y; exact absurd y (by decide))]
          simp only [hp4, chk_i (show inb (nI p) 64 from nki hp (by decide)), lt, nkc (show p < 5000 by omega), fu (show MO ≠ A_code by decide), fu (show MO ≠ A_codeTags by decide), b_Mod_instructionLine_311, nk1]
        rw [er]
        refine Or.inl ⟨k, _, _, rfl, rfl, hk, LI_p hm16 (by omega) (LI_w h (fun b hb => by rw [fu (by omega), fu (by omega)]) (by rw [fu (by omega), fu (by omega)]) (fun _ _ => by rw [fu (by decide), fu (by decide)]) (by rw [fu (by decide), fu (by decide)]) (fun y => QM_code (i8 y))), ?_⟩
        rw [hx]
        exact RX_t (RX_a (by decide)) (RX_t (RX_a (by decide)) (RX_u (by decide)))
    obtain ⟨q, hq, zq⟩ := z
    obtain ⟨p1, p2, p3, p4, p5, p6, p7, p8⟩ := pq_q q hq
    have r10 : R MO 10 = nI (m2r (fC q)) := by rw [← zq]; exact st.2.1.2.1.1 (by rw [zq]; exact p5)
    have cl := cq_l (n := n) (m := m) (f := f) (v := v) (t := t) (g := nI g) (C := C) hq j9 (by rw [c11, zq])
    have rl := rq_l (n := n) (J := J) (f := f' + 1) (v := v) (t := t) (g := nI g) h14
    rw [r10, p1, if_neg p2, if_neg p3] at rl
    have bt := bit_t g hg q hq
    by_cases tb : (nI g &&& nI (2 ^ q)) = 0
    rotate_left
    · -- told before
      rw [cl, if_neg tb, e134]
      refine Or.inr ⟨1, _, rfl, Or.inr ⟨rfl, ?_⟩, fun x0 => ?_⟩
      · rw [fu (by decide), fu (by omega), fu (by omega), c11, zq]
        exact fun y => p7 (nij (b := 187) (by omega) (by decide) y)
      · obtain ⟨g1, g2⟩ := flF vt st
        have n14 : 0 ≤ up R MO 14 (nI (tP T N k)) MO 14 := g2.1
        refine ⟨up (up R MO 14 (nI (tP T N k))) MO 4 (nI (p + 1)), ?_, FL_u ?_ (by decide), RX_t (RX_u (by decide)) (RX_u (by decide))⟩
        · rw [rl, if_pos (bt.mpr tb), g1, Option.bind_some, rq_0 (q := q) n14, rq_e (Or.inr n14), rq_s (by rw [up_ne (Or.inr (by decide))]; exact i6.trans x0), up_ne (Or.inr (show 4 ≠ 14 by decide)), hp4, nk1]
        · obtain ⟨w1, w2, w3⟩ := g2
          refine ⟨w1, ?_, TXc_u (TXc_u (TXc_u w3 (Or.inl (by omega)) (by omega)) (Or.inl (by omega)) (by omega)) (Or.inl (by decide)) (by decide)⟩
          rw [up_ne (Or.inr (show 4 ≠ 2 by decide)), fu (show 15 ≠ m + 2 by omega), fu (show 15 ≠ m + 1 by omega), fu (show 1 ≠ 15 by decide), fu (show 1 ≠ m + 2 by omega), fu (show 1 ≠ m + 1 by omega)]
          exact w2
    -- a new one
    rw [if_neg (fun y => bt.mp y tb), rq_b hq h14] at rl
    rw [if_pos tb] at cl
    obtain ⟨C1, R1, a1, a2, -, a3, a4, a5, a6⟩ := adS (n := n) hJ hn vt st (by rw [zq]; exact p6) (by rw [zq]; exact p5)
    obtain ⟨f1, f2⟩ := adS_f a4 a5 a6
    rw [a1, Option.bind_some] at cl
    rw [a2, Option.bind_some] at rl
    rcases tn (n := n) (lo := fLo q) (hi := fHi q) (sg := fSg q) hJ hn vt a3 (fS_o q hq) with ⟨k', C', R', b1, b2, b3, b4, b5, b6, b7, b8, b9⟩ | ⟨C', R', b1, b2, b3, b8, b9⟩
    · have li := LI_n hm h b4 (CN_t f1 b8) (RN_t f2 b9)
      have kK' := b4.1.2.2.1
      rw [cq_f hq (Or.inr rfl) b1, Option.bind_some, if_neg (show ¬ (1 : Int32) = 0 by decide)] at cl
      rw [b2, Option.bind_some] at rl
      obtain ⟨o1, o2⟩ := bit_o g hg q hq
      rw [o1, nk1] at cl
      rw [o1] at rl
      dsimp only at cl
      rw [b5] at cl
      omega
    · rw [cq_f hq (Or.inl rfl) b1, Option.bind_some, if_pos rfl] at cl
      rw [b2, Option.bind_some] at rl
      have fr := RN_t f2 b9
      refine Or.inr ⟨0, C', cl, Or.inl rfl, fun x0 => ⟨up R' MO 4 (R' MO 4 + 1), ?_, FL_u b3 (by decide), RX_t (RX_n fr) (RX_u (by decide))⟩⟩
      rw [rl, rq_e (Or.inr b3.1), rq_s (by rw [fr.2 6 (by decide)]; exact i6.trans x0)]
  | succ d ih =>
    intro f f' k j g v t C R hd hf hf' hj hk hg hp4 h
    obtain ⟨f, rfl⟩ : ∃ e, f = e + 1 := ⟨f - 1, by omega⟩
    obtain ⟨f', rfl⟩ : ∃ e, f' = e + 1 + 1 := ⟨f' - 2, by omega⟩
    obtain ⟨st, i6, i2, i4, i5, i7, i8⟩ := id h
    have kb : k ≤ 900 := by have := st.1.2.1.2.2.2; have := st.1.2.2.1; omega
    have j9 : ¬ (900 : Int32) ≤ nI j := nk (N := 900) (by omega) (by decide)
    have h14 : R MO 14 = -1 := st.2.2.2
    have c11 : C 1 1 = nI (tC T N k) := st.1.2.2.2.2.1
    have e134 : ∀ v t, b_Img_readInstruction_134 n m v t C = some (1, up (up (up C (m + 1) p v) (m + 2) p t) 15 2 (nI (p + 1))) := fun v t => c134 hp (i2.trans hp4) hm16
    by_cases z : ∃ q, q < 5 ∧ tC T N k = fC q
    rotate_left
    · -- nothing more
      have cl : l_Img_readInstruction_35 n m (f + 1) v t (nI g) (nI j) C = some (1, up (up (up C (m + 1) p v) (m + 2) p t) 15 2 (nI (p + 1))) := by
        rw [cq_n j9 (fun q hq y => z ⟨q, hq, (tkc vt (by have := (pq_q q hq).2.2.2.2.2.2.2; omega)).mp (c11.symm.trans y)⟩), e134]
      have pr : pq (R MO 10) < 0 := by
        by_cases y : tC T N k = 102
        · rcases st.2.1.2.1.2 y with w | w <;> rw [w] <;> decide
        · rw [st.2.1.2.1.1 y]
          exact pq_c _ (tC_V vt) y (fun q hq w => z ⟨q, hq, w⟩)
      have rl : l_Mod_instructionLine_30 n J (f' + 1 + 1) v t (nI g) 1 R = b_Mod_instructionLine_284 n J v t R := by
        rw [rq_l h14, if_pos pr, rq_e (Or.inl rfl)]
      rw [cl, rl]
      rcases hx with hx | hx
      · rw [rq_s (i6.trans hx), hp4, nk1]
        refine Or.inl ⟨k, _, _, rfl, rfl, hk, LI_p hm16 (by omega) (LI_w h (fun b hb => by rw [fu (by omega), fu (by omega)]) (by rw [fu (by omega), fu (by omega)]) (fun _ _ => rfl) rfl (fun y => by rw [hx] at y; exact absurd y (by decide))), RX_u (by decide)⟩
      · have er : b_Mod_instructionLine_284 n J v t R = some (up (up (up R A_code p v) A_codeTags p t) MO 4 (nI (p + 1))) := by
          rw [b_Mod_instructionLine_284, if_neg (fun y => by rw [i6, hx] at y; exact absurd y (by decide))]
          simp only [hp4, chk_i (show inb (nI p) 64 from nki hp (by decide)), lt, nkc (show p < 5000 by omega), fu (show MO ≠ A_code by decide), fu (show MO ≠ A_codeTags by decide), b_Mod_instructionLine_311, nk1]
        rw [er]
        refine Or.inl ⟨k, _, _, rfl, rfl, hk, LI_p hm16 (by omega) (LI_w h (fun b hb => by rw [fu (by omega), fu (by omega)]) (by rw [fu (by omega), fu (by omega)]) (fun _ _ => by rw [fu (by decide), fu (by decide)]) (by rw [fu (by decide), fu (by decide)]) (fun y => QM_code (i8 y))), ?_⟩
        rw [hx]
        exact RX_t (RX_a (by decide)) (RX_t (RX_a (by decide)) (RX_u (by decide)))
    obtain ⟨q, hq, zq⟩ := z
    obtain ⟨p1, p2, p3, p4, p5, p6, p7, p8⟩ := pq_q q hq
    have r10 : R MO 10 = nI (m2r (fC q)) := by rw [← zq]; exact st.2.1.2.1.1 (by rw [zq]; exact p5)
    have cl := cq_l (n := n) (m := m) (f := f) (v := v) (t := t) (g := nI g) (C := C) hq j9 (by rw [c11, zq])
    have rl := rq_l (n := n) (J := J) (f := f' + 1) (v := v) (t := t) (g := nI g) h14
    rw [r10, p1, if_neg p2, if_neg p3] at rl
    have bt := bit_t g hg q hq
    by_cases tb : (nI g &&& nI (2 ^ q)) = 0
    rotate_left
    · -- told before
      rw [cl, if_neg tb, e134]
      refine Or.inr ⟨1, _, rfl, Or.inr ⟨rfl, ?_⟩, fun x0 => ?_⟩
      · rw [fu (by decide), fu (by omega), fu (by omega), c11, zq]
        exact fun y => p7 (nij (b := 187) (by omega) (by decide) y)
      · obtain ⟨g1, g2⟩ := flF vt st
        have n14 : 0 ≤ up R MO 14 (nI (tP T N k)) MO 14 := g2.1
        refine ⟨up (up R MO 14 (nI (tP T N k))) MO 4 (nI (p + 1)), ?_, FL_u ?_ (by decide), RX_t (RX_u (by decide)) (RX_u (by decide))⟩
        · rw [rl, if_pos (bt.mpr tb), g1, Option.bind_some, rq_0 (q := q) n14, rq_e (Or.inr n14), rq_s (by rw [up_ne (Or.inr (by decide))]; exact i6.trans x0), up_ne (Or.inr (show 4 ≠ 14 by decide)), hp4, nk1]
        · obtain ⟨w1, w2, w3⟩ := g2
          refine ⟨w1, ?_, TXc_u (TXc_u (TXc_u w3 (Or.inl (by omega)) (by omega)) (Or.inl (by omega)) (by omega)) (Or.inl (by decide)) (by decide)⟩
          rw [up_ne (Or.inr (show 4 ≠ 2 by decide)), fu (show 15 ≠ m + 2 by omega), fu (show 15 ≠ m + 1 by omega), fu (show 1 ≠ 15 by decide), fu (show 1 ≠ m + 2 by omega), fu (show 1 ≠ m + 1 by omega)]
          exact w2
    -- a new one
    rw [if_neg (fun y => bt.mp y tb), rq_b hq h14] at rl
    rw [if_pos tb] at cl
    obtain ⟨C1, R1, a1, a2, -, a3, a4, a5, a6⟩ := adS (n := n) hJ hn vt st (by rw [zq]; exact p6) (by rw [zq]; exact p5)
    obtain ⟨f1, f2⟩ := adS_f a4 a5 a6
    rw [a1, Option.bind_some] at cl
    rw [a2, Option.bind_some] at rl
    rcases tn (n := n) (lo := fLo q) (hi := fHi q) (sg := fSg q) hJ hn vt a3 (fS_o q hq) with ⟨k', C', R', b1, b2, b3, b4, b5, b6, b7, b8, b9⟩ | ⟨C', R', b1, b2, b3, b8, b9⟩
    · have li := LI_n hm h b4 (CN_t f1 b8) (RN_t f2 b9)
      have kK' := b4.1.2.2.1
      rw [cq_f hq (Or.inr rfl) b1, Option.bind_some, if_neg (show ¬ (1 : Int32) = 0 by decide)] at cl
      rw [b2, Option.bind_some] at rl
      obtain ⟨o1, o2⟩ := bit_o g hg q hq
      rw [o1, nk1] at cl
      rw [o1] at rl
      dsimp only at cl
      rw [b5] at cl
      have rc2 := ih f (f' + 1) k' (j + 1) (g ||| 2 ^ q) (fV q v (R' MO 7)) (fT q t (R' MO 7)) C' R' (by omega) (by omega) (by omega) (by omega) (by omega) o2 (by rw [(RN_t f2 b9).2 4 (by decide)]; exact hp4) li
      rw [← cl, ← rl] at rc2
      rcases rc2 with ⟨k2, C2, R2, y1, y2, y3, y4, y5⟩ | ⟨g2, C2, y1, y2, y3⟩
      · exact Or.inl ⟨k2, C2, R2, y1, y2, y3, y4, RX_t (RX_n (RN_t f2 b9)) y5⟩
      · exact Or.inr ⟨g2, C2, y1, y2, fun x0 => by
          obtain ⟨R2, w1, w2, w3⟩ := y3 x0
          exact ⟨R2, w1, w2, RX_t (RX_n (RN_t f2 b9)) w3⟩⟩
    · rw [cq_f hq (Or.inl rfl) b1, Option.bind_some, if_pos rfl] at cl
      rw [b2, Option.bind_some] at rl
      have fr := RN_t f2 b9
      refine Or.inr ⟨0, C', cl, Or.inl rfl, fun x0 => ⟨up R' MO 4 (R' MO 4 + 1), ?_, FL_u b3 (by decide), RX_t (RX_n fr) (RX_u (by decide))⟩⟩
      rw [rl, rq_e (Or.inr b3.1), rq_s (by rw [fr.2 6 (by decide)]; exact i6.trans x0)]
theorem L_ins {x : Int32} {tl : Int32 → Nat → Prop} {m : Nat} {T : Nat → Int32} {N K k n : Nat} {J : JM} {C R : IM} (hx : x = 0 ∨ x = 1) (hm : isMch m) (hJ : JOK J) (hn : 1000 ≤ n) (vt : VT T N) (h : LI x tl m T N K k C R) (z : tC T N k < 22) : OUi x tl m T N K k R (f_Img_readInstruction n m (C 1 1) C) (f_Mod_instructionLine n J R) := by
  obtain ⟨st, i6, i2, ⟨p, hp, ip⟩, i5, i7, i8⟩ := id h
  have c11 : C 1 1 = nI (tC T N k) := st.1.2.2.2.2.1
  have c2 : C 15 2 = nI p := i2.trans ip
  have p0 : ¬ nI p < 0 := fun y => by have := (nlt (b := 0) (by omega) (by decide)).mp y; omega
  by_cases p64 : p = 64
  · obtain ⟨g1, g2⟩ := flF vt st
    refine Or.inr ⟨0, C, ?_, Or.inl rfl, fun _ => ⟨_, ?_, g2, RX_u (by decide)⟩⟩
    · rw [f_Img_readInstruction, c2, if_neg p0, p64, if_neg (show ¬ nI 64 < 64 by decide), b_Img_readInstruction_16]
    · rw [f_Mod_instructionLine, ip, p64, if_neg (show ¬ nI 64 < 64 by decide), g1, Option.bind_some]
  have pl : nI p < 64 := (nlt (b := 64) (by omega) (by decide)).mpr (by omega)
  have m22 : m2r (tC T N k) = tC T N k := by unfold m2r; rw [if_pos z]
  have r10 : R MO 10 = nI (tC T N k) := by
    have := st.2.1.2.1.1 (by omega)
    rw [m22] at this
    exact this
  obtain ⟨C1, R1, a1, a2, -, a3, a4, a5, a6⟩ := adS (n := n) hJ hn vt st (by omega) (by omega)
  obtain ⟨f1, f2⟩ := adS_f a4 a5 a6
  have li := LI_n hm h a3 f1 f2
  have kb : K ≤ 900 := a3.1.2.1.2.2.2
  have := insl (n := n) (k0 := k) (p := p) hx hm hJ hn vt (by omega) K n n (k + 1) 0 0 (nI (tC T N k)) 0 C1 R1 (by omega) (by omega) (by omega) (by omega) (by omega) (by decide) (by rw [f2.2 4 (by decide)]; exact ip) li
  have ec : f_Img_readInstruction n m (C 1 1) C = l_Img_readInstruction_35 n m n (nI (tC T N k)) 0 (nI 0) (nI 0) C1 := by
    rw [f_Img_readInstruction, c2, if_neg p0, if_pos pl, a1, Option.bind_some, c11]; rfl
  have er : f_Mod_instructionLine n J R = l_Mod_instructionLine_30 n J n (nI (tC T N k)) 0 (nI 0) 1 R1 := by
    rw [f_Mod_instructionLine, ip, if_pos pl, a2, Option.bind_some, r10]; rfl
  rw [← ec, ← er] at this
  rcases this with ⟨k2, C2, R2, y1, y2, y3, y4, y5⟩ | ⟨g2, C2, y1, y2, y3⟩
  · exact Or.inl ⟨k2, C2, R2, y1, y2, y3, y4, RX_t (RX_n f2) y5⟩
  · exact Or.inr ⟨g2, C2, y1, y2, fun x0 => by
      obtain ⟨R2, w1, w2, w3⟩ := y3 x0
      exact ⟨R2, w1, w2, RX_t (RX_n f2) w3⟩⟩
