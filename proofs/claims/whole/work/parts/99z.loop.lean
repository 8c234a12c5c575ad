/-! image: the lines, one after another -/
def GL (T : Nat → Int32) (N : Nat) (C : IM) : Prop := ¬ (if C 15 4 = -1 then C 1 2 else C 15 4) = -1 ∧ TXc T N C
theorem n14 {v : Int32} (h : 0 ≤ v) : ¬ v = -1 := fun e => by rw [e] at h; exact ng1 h
theorem FL_G {T : Nat → Int32} {N : Nat} {C R : IM} (h : FL T N C R) : GL T N C := ⟨fun e => n14 h.1 (h.2.1.trans e), h.2.2⟩
theorem ST_G {T : Nat → Int32} {N K k : Nat} {C R : IM} (vt : VT T N) (h : ST T N K k C R) : GL T N C := ⟨fun e => by
  rw [h.2.2.1, if_pos rfl, h.1.2.2.2.2.2.1] at e
  exact (tP_b (k := k) vt).2 e, h.1.1⟩
theorem OU_G {tl : Int32 → Nat → Prop} {m : Nat} {T : Nat → Int32} {N K k : Nat} {R C' : IM} {cl : Option (Int32 × IM)} {rf : Option IM} {g : Int32} (vt : VT T N) (h : OUi 0 tl m T N K k R cl rf) (e : cl = some (g, C')) : GL T N C' := by
  rcases h with ⟨k', C1, R1, a1, -, -, a2, -⟩ | ⟨g1, C1, a1, -, a3⟩
  · have e1 : C1 = C' := congrArg Prod.snd (Option.some.inj (a1.symm.trans e))
    rw [← e1]
    exact ST_G vt a2.1
  · have e1 : C1 = C' := congrArg Prod.snd (Option.some.inj (a1.symm.trans e))
    obtain ⟨R1, -, b, -⟩ := a3 rfl
    rw [← e1]
    exact FL_G b
/-- the same, with nothing done -/
theorem LI_0 {x : Int32} {tl : Int32 → Nat → Prop} {m : Nat} {T : Nat → Int32} {N K k : Nat} {C R : IM} (h : LI x tl m T N K k C R) : LI 0 tl m T N K k C (up R MO 6 0) := by
  obtain ⟨⟨ra, rb, s4, s14⟩, i6, i2, i4, i5, i7, i8⟩ := h
  exact ⟨⟨ra, RB_u rb (by decide), s4, by rw [up_ne (Or.inr (by decide))]; exact s14⟩, up_self, by rw [up_ne (Or.inr (by decide))]; exact i2, by rw [up_ne (Or.inr (by decide))]; exact i4, by rw [up_ne (Or.inr (by decide))]; exact i5, by rw [up_ne (Or.inr (by decide))]; exact i7, fun y => absurd y (by decide)⟩
def rLn (n : Nat) (J : JM) (R : IM) : Option IM := if (R MO 10 : Int32) = (64 : Int32) then rAt n J R else if (R MO 10 : Int32) = (65 : Int32) then f_Mod_wordLine n J R else if (R MO 10 : Int32) = (67 : Int32) then f_Mod_registerLine n J R else if (R MO 10 : Int32) = (68 : Int32) then f_Mod_inputLine n J R else if 0 ≤ R MO 10 ∧ R MO 10 ≤ 21 then f_Mod_instructionLine n J R else f_Mod_fail R
theorem r84 {n : Nat} {J : JM} {R : IM} {H : Int32 → IM → Option IM} : b_Mod_readImage_84 n J H R = Option.bind (rLn n J R) (b_Mod_readImage_188 n J H) := by
  rw [b_Mod_readImage_84, rLn]
  by_cases c1 : R MO 10 = 64
  · rw [if_pos c1, if_pos c1, rAt]
    cases f_Mod_step n J R with
    | none => rfl
    | some a =>
      rw [Option.bind_some, Option.bind_some]
      cases f_Mod_takeNumber n J 0 63 0 a with
      | none => rfl
      | some b => rfl
  rw [if_neg c1, if_neg c1]
  by_cases c2 : R MO 10 = 65
  · rw [if_pos c2, if_pos c2]
  rw [if_neg c2, if_neg c2]
  by_cases c3 : R MO 10 = 67
  · rw [if_pos c3, if_pos c3]
  rw [if_neg c3, if_neg c3]
  by_cases c4 : R MO 10 = 68
  · rw [if_pos c4, if_pos c4]
  rw [if_neg c4, if_neg c4, inF, Option.bind_some]
  by_cases c5 : 0 ≤ R MO 10 ∧ R MO 10 ≤ 21
  · rw [if_pos c5, if_pos c5, if_neg (show ¬ (1 : Int32) = 0 by decide)]
  · rw [if_neg c5, if_neg c5, if_pos rfl]
theorem w22 : ∀ c ∈ VL, c ≠ 102 → (0 ≤ nI (m2r c) ∧ nI (m2r c) ≤ 21 ↔ c < 22) := by decide +kernel
theorem tk22 {T : Nat → Int32} {N k : Nat} {r : Int32} (vt : VT T N) (h : tokR (tC T N k) r) : (0 ≤ r ∧ r ≤ 21) ↔ tC T N k < 22 := by
  by_cases c : tC T N k = 102
  · rcases h.2 c with y | y <;> rw [y, c] <;> decide
  · rw [h.1 c]; exact w22 _ (tC_V vt) c
theorem L_line {x : Int32} {tl : Int32 → Nat → Prop} {m : Nat} {T : Nat → Int32} {N K k n : Nat} {J : JM} {C R : IM} (hx : x = 0 ∨ x = 1) (hm : isMch m) (hJ : JOK J) (hn : 1000 ≤ n) (vt : VT T N) (h : LI x tl m T N K k C R) : OUi x tl m T N K k R (f_Img_readLine n m C) (rLn n J R) := by
  have st := h.1
  have c11 : C 1 1 = nI (tC T N k) := st.1.2.2.2.2.1
  have bad : ∀ {cl : Option (Int32 × IM)} {G : Option (Int32 × IM)} {rf : Option IM}, OUi x tl m T N K k R cl rf → G = (Option.bind cl fun v3 => chk ((v3.1 : Int32) = 0 ∨ (v3.1 : Int32) = 1) <| some (v3.1, v3.2)) → OUi x tl m T N K k R G rf := fun {cl G rf} ho hG => by
    have e : ∀ g C', cl = some (g, C') → (g = 0 ∨ g = 1) → G = cl := fun g C' w1 w2 => by
      rw [hG, w1, Option.bind_some]; exact b01 w2
    rcases ho with ⟨k', C', R', a1, a2⟩ | ⟨g, C', a1, a2, a3⟩
    · exact Or.inl ⟨k', C', R', (e 1 C' a1 (Or.inr rfl)).trans a1, a2⟩
    · exact Or.inr ⟨g, C', (e g C' a1 (by rcases a2 with w | w; exact Or.inl w; exact Or.inr w.1)).trans a1, a2, a3⟩
  have t22 := tk22 vt st.2.1.2.1
  have rw' : ∀ w, w < 50 → (R MO 10 = nI (m2r w) ↔ tC T N k = w) := fun w hw => tkE vt st.2.1.2.1 (V50 w hw) (by omega)
  have t45 : R MO 10 = 64 ↔ tC T N k = 45 := rw' 45 (by decide)
  have t46 : R MO 10 = 65 ↔ tC T N k = 46 := rw' 46 (by decide)
  have t47 : R MO 10 = 67 ↔ tC T N k = 47 := rw' 47 (by decide)
  have t48 : R MO 10 = 68 ↔ tC T N k = 48 := rw' 48 (by decide)
  have cw : ∀ w, w < 50 → (C 1 1 = nI w ↔ tC T N k = w) := fun w hw => by rw [c11]; exact tkc vt (by omega)
  by_cases z : tC T N k < 22
  · have cl : ¬ (22 : Int32) ≤ C 1 1 := by rw [c11]; exact nk (N := 22) z (by decide)
    have er : rLn n J R = f_Mod_instructionLine n J R := by
      rw [rLn, if_neg (fun y => by have := t45.mp y; omega), if_neg (fun y => by have := t46.mp y; omega), if_neg (fun y => by have := t47.mp y; omega), if_neg (fun y => by have := t48.mp y; omega), if_pos (t22.mpr z)]
    rw [er]
    exact bad (L_ins (n := n) hx hm hJ hn vt h z) (by rw [f_Img_readLine, if_neg cl])
  have cl : (22 : Int32) ≤ C 1 1 := by
    rw [c11]
    exact (nle (a := 22) (by decide) (by have := tC_b (k := k) vt; omega)).mpr (by omega)
  by_cases z1 : tC T N k = 45
  · have er : rLn n J R = rAt n J R := by rw [rLn, if_pos (t45.mpr z1)]
    rw [er]
    exact bad (L_at (n := n) hm hJ hn vt h z1) (by rw [f_Img_readLine, if_pos cl, if_pos (show C 1 1 = 45 from (cw 45 (by decide)).mpr z1)])
  by_cases z2 : tC T N k = 46
  · have er : rLn n J R = f_Mod_wordLine n J R := by rw [rLn, if_neg (fun y => z1 (t45.mp y)), if_pos (t46.mpr z2)]
    rw [er]
    exact bad (L_word (n := n) hx hm hJ hn vt h z2) (by rw [f_Img_readLine, if_pos cl, if_neg (show ¬ C 1 1 = 45 from fun y => z1 ((cw 45 (by decide)).mp y)), if_pos (show C 1 1 = 46 from (cw 46 (by decide)).mpr z2)])
  by_cases z3 : tC T N k = 47
  · have er : rLn n J R = f_Mod_registerLine n J R := by rw [rLn, if_neg (fun y => z1 (t45.mp y)), if_neg (fun y => z2 (t46.mp y)), if_pos (t47.mpr z3)]
    rw [er]
    exact bad (L_reg (n := n) hx hm hJ hn vt h z3) (by rw [f_Img_readLine, if_pos cl, if_neg (show ¬ C 1 1 = 45 from fun y => z1 ((cw 45 (by decide)).mp y)), if_neg (show ¬ C 1 1 = 46 from fun y => z2 ((cw 46 (by decide)).mp y)), if_pos (show C 1 1 = 47 from (cw 47 (by decide)).mpr z3)])
  by_cases z4 : tC T N k = 48
  · have er : rLn n J R = f_Mod_inputLine n J R := by rw [rLn, if_neg (fun y => z1 (t45.mp y)), if_neg (fun y => z2 (t46.mp y)), if_neg (fun y => z3 (t47.mp y)), if_pos (t48.mpr z4)]
    rw [er]
    exact bad (L_inp (n := n) hx hm hJ hn vt h z4) (by rw [f_Img_readLine, if_pos cl, if_neg (show ¬ C 1 1 = 45 from fun y => z1 ((cw 45 (by decide)).mp y)), if_neg (show ¬ C 1 1 = 46 from fun y => z2 ((cw 46 (by decide)).mp y)), if_neg (show ¬ C 1 1 = 47 from fun y => z3 ((cw 47 (by decide)).mp y)), if_pos (show C 1 1 = 48 from (cw 48 (by decide)).mpr z4)])
  obtain ⟨g1, g2⟩ := flF vt st
  refine Or.inr ⟨0, C, ?_, Or.inl rfl, fun _ => ⟨_, ?_, g2, RX_u (by decide)⟩⟩
  · rw [f_Img_readLine, if_pos cl, if_neg (show ¬ C 1 1 = 45 from fun y => z1 ((cw 45 (by decide)).mp y)), if_neg (show ¬ C 1 1 = 46 from fun y => z2 ((cw 46 (by decide)).mp y)), if_neg (show ¬ C 1 1 = 47 from fun y => z3 ((cw 47 (by decide)).mp y)), if_neg (show ¬ C 1 1 = 48 from fun y => z4 ((cw 48 (by decide)).mp y))]
  · rw [rLn, if_neg (fun y => z1 (t45.mp y)), if_neg (fun y => z2 (t46.mp y)), if_neg (fun y => z3 (t47.mp y)), if_neg (fun y => z4 (t48.mp y)), if_neg (fun y => z (t22.mp y)), g1]
/-- a line and its semicolon -/
def csE (cl : Option (Int32 × IM)) : Option (Int32 × IM) := Option.bind cl fun v => if (v.1 : Int32) = 0 then some (0, v.2) else f_Rdr_take 187 v.2
def rsE (n : Nat) (J : JM) (rf : Option IM) : Option IM := Option.bind rf (f_Mod_need n J 59)
theorem need0 {n : Nat} {J : JM} {R : IM} {s : Int32} (h : 0 ≤ R MO 14) : f_Mod_need n J s R = some R := by
  rw [f_Mod_need, if_pos h, b_Mod_need_19, if_pos h, b_Mod_need_30]
def SCi (x : Int32) (tl : Int32 → Nat → Prop) (m : Nat) (T : Nat → Int32) (N K k : Nat) (R : IM) (cl : Option (Int32 × IM)) (rf : Option IM) : Prop := (∃ k' C' R', cl = some (1, C') ∧ rf = some R' ∧ k + 1 < k' ∧ LI x tl m T N K k' C' R' ∧ RX x R R') ∨ ∃ C', cl = some (0, C') ∧ GL T N C' ∧ (x = 0 → ∃ R', rf = some R' ∧ FL T N C' R' ∧ RX 0 R R')
theorem SC_of {x : Int32} {tl : Int32 → Nat → Prop} {m : Nat} {T : Nat → Int32} {N K k n : Nat} {J : JM} {R R0 : IM} {cl : Option (Int32 × IM)} {rf rf0 : Option IM} (hm : isMch m) (hJ : JOK J) (hn : 1000 ≤ n) (vt : VT T N) (h : OUi x tl m T N K k R cl rf) (h0 : OUi 0 tl m T N K k R0 cl rf0) : SCi x tl m T N K k R (csE cl) (rsE n J rf) := by
  rcases h with ⟨k', C', R', a1, a2, a3, a4, a5⟩ | ⟨g, C', a1, a2, a3⟩
  · have st := a4.1
    have c11 : C' 1 1 = nI (tC T N k') := st.1.2.2.2.2.1
    have t1 : C' 1 1 = 187 ↔ tC T N k' = 187 := by rw [c11]; exact tkc (w := 187) vt (by decide)
    have t2 : R' MO 10 = 459 ↔ tC T N k' = 187 := tkE (w := 187) vt st.2.1.2.1 (by decide) (by decide)
    have h14 : R' MO 14 = -1 := st.2.2.2
    have e59 : (400 + 59 : Int32) = 459 := rfl
    by_cases z : tC T N k' = 187
    · obtain ⟨C1, R1, b1, -, b2, b3, b4, b5, b6⟩ := adS (n := n) hJ hn vt st (by omega) (by omega)
      obtain ⟨f1, f2⟩ := adS_f b4 b5 b6
      refine Or.inl ⟨k' + 1, C1, R1, ?_, ?_, by omega, LI_n hm a4 b3 f1 f2, RX_t a5 (RX_n f2)⟩
      · rw [csE, a1, Option.bind_some, if_neg (show ¬ (1 : Int32) = 0 by decide), f_Rdr_take, if_pos (t1.mpr z), b1, Option.bind_some]
      · rw [rsE, a2, Option.bind_some, f_Mod_need, h14, if_neg ng1, f_Mod_is, Option.bind_some, e59, if_pos (t2.mpr z), if_neg (show ¬ (1 : Int32) = 0 by decide), b_Mod_need_19, h14, if_neg ng1, b2, Option.bind_some, b_Mod_need_30]
    · obtain ⟨g1, g2⟩ := flF vt st
      refine Or.inr ⟨C', ?_, ST_G vt st, fun x0 => ⟨_, ?_, g2, RX_t (x0 ▸ a5) (RX_u (by decide))⟩⟩
      · rw [csE, a1, Option.bind_some, if_neg (show ¬ (1 : Int32) = 0 by decide), f_Rdr_take, if_neg (fun y => z (t1.mp y))]
      · rw [rsE, a2, Option.bind_some, f_Mod_need, h14, if_neg ng1, f_Mod_is, Option.bind_some, e59, if_neg (fun y => z (t2.mp y)), if_pos rfl, g1, Option.bind_some, b_Mod_need_19, if_pos g2.1, b_Mod_need_30]
  · refine Or.inr ⟨C', ?_, OU_G vt h0 a1, fun x0 => ?_⟩
    · rw [csE, a1, Option.bind_some]
      rcases a2 with w | ⟨w1, w2⟩
      · rw [if_pos w]
      · rw [w1, if_neg (show ¬ (1 : Int32) = 0 by decide), f_Rdr_take, if_neg w2]
    · obtain ⟨R', w1, w2, w3⟩ := a3 x0
      exact ⟨R', by rw [rsE, w1, Option.bind_some, need0 w2.1], w2, w3⟩
