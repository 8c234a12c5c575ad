/-! names and keep -/
theorem nad {a b : Nat} : nI a + nI b = nI (a + b) := by
  unfold nI
  exact (Int32.ofNat_add a b).symm
theorem nge {k : Nat} (h : k < 5000) : (0 : Int32) ≤ nI k := by
  rw [tl, nI_toInt (by omega)]
  simp only [Int32.reduceToInt]
  omega
theorem cfm {A : AP} (w : WF A) {s : Nat} : ∀ d, s + d ≤ aNs A → aCf A s + d ≤ aCf A (s + d)
  | 0, _ => Nat.le_refl _
  | d + 1, h => by
    have h1 := cfm w (s := s) d (by omega)
    have h2 := w.2.2.2.2.2.1 (s + d) (by omega)
    rw [show s + (d + 1) = s + d + 1 from rfl]
    omega
theorem cfl {A : AP} (w : WF A) {s : Nat} (h : s ≤ aNs A) : aCf A s ≤ aNc A := by
  have := cfm w (s := s) (aNs A - s) (by omega)
  rw [show s + (aNs A - s) = aNs A by omega] at this
  unfold aNc
  omega
theorem sfm {A : AP} (w : WF A) {q : Nat} : ∀ d, q + d ≤ aNr A → aSf A q ≤ aSf A (q + d)
  | 0, _ => Nat.le_refl _
  | d + 1, h => by
    have h1 := sfm w (q := q) d (by omega)
    have h2 := w.2.2.1 (q + d) (by omega)
    rw [show q + (d + 1) = q + d + 1 from rfl]
    omega
theorem sfl {A : AP} (w : WF A) {q : Nat} (h : q ≤ aNr A) : aSf A q ≤ aNs A := by
  have := sfm w (q := q) (aNr A - q) (by omega)
  rw [show q + (aNr A - q) = aNr A by omega] at this
  exact this
theorem ma_names {KT : (Nat → Int32) → Int32 → AP → Prop} : Ma_names (Rl (PXk KT)) := by
  intro a0 t ht rl hd ot pt it J I p1 p2 p3 p4 p5 hJ hR
  obtain ⟨-, A, B, w1, -, r1, -, k1, -, -, -⟩ := hR.2.2.2.2.2.2.2
  by_cases c1 : a0 < 0
  · refine Or.inr ⟨0, 0, up I MO 0 1, ?_, ?_, up_self, Rl_thr PXk_F p2 p3 hR⟩
    · rw [t_Eng_names, if_pos c1]; rfl
    · simp [f_Mod_names, f_Mod_in, c1, refuse_1]
  by_cases c2 : a0 < 22
  · have c2' : ¬ (21 : Int32) < a0 := by
      rw [ti] at c2 ⊢
      simp only [Int32.reduceToInt] at c2 ⊢
      omega
    have hlt : a0.toInt < 22 := by rw [ti] at c2; exact c2
    have hin : inb a0 22 := inb_of c1 hlt
    have hin4 : inb a0 44 := inb_of c1 (by omega)
    have hk := nat_lt c1 hlt
    refine Or.inl ⟨0, I (rl + 5) a0.toNatClampNeg, up I MO 0 0, ?_, ?_, up_self, Rl_thr PXk_F p2 p3 hR⟩
    · rw [f_Eng_names, if_neg c1, if_pos c2, chk_i hin]
    · have e0 : f_Mod_in a0 0 21 I = some 1 := by simp [f_Mod_in, c1, c2', chk]
      rw [f_Mod_names, e0, Option.bind_some, if_neg (by decide), refuse_0, Option.bind_some, if_pos rfl, chk_i hin4]
      simp only [m0 (show A_ruleOf ≠ MO by decide), m0 (show A_named ≠ MO by decide)]
      rcases w1.2.2.2.2.2.2.2.1 _ hk with e | ⟨q, hq, e⟩
      · have e1 := (r1.1 _ hk).1 e
        rw [Nat.zero_add] at e1
        rw [e1, if_neg (by decide), b_Mod_names_49, (k1.1 _ hk).1 e]
      · have e1 := (r1.1 _ hk).2 q hq e
        have e2 := (r1.2.1 q hq).2.2
        have hq22 := w1.1
        rw [Nat.zero_add, Nat.zero_add] at e1
        rw [Nat.zero_add] at e2
        rw [e1, if_pos (nge (by omega)), chk_i (nki (by omega) (by decide)), nkc (by omega), b_Mod_names_49, e2, ((k1.1 _ hk).2 q hq e).1]
  · have c2' : (21 : Int32) < a0 := by
      rw [ti] at c2 ⊢
      simp only [Int32.reduceToInt] at c2 ⊢
      omega
    refine Or.inr ⟨0, 0, up I MO 0 1, ?_, ?_, up_self, Rl_thr PXk_F p2 p3 hR⟩
    · rw [t_Eng_names, if_neg c1, if_neg c2]; rfl
    · simp [f_Mod_names, f_Mod_in, c1, c2', refuse_1]
/-! the class's half of keep -/
theorem lp_1 {p : Nat} (h : isPol p) : lenA (p + 1) = 900 := by rcases h with rfl | rfl | rfl <;> rfl
theorem lp_2 {p : Nat} (h : isPol p) : lenA (p + 2) = 900 := by rcases h with rfl | rfl | rfl <;> rfl
theorem lp_3 {p : Nat} (h : isPol p) : lenA (p + 3) = 22 := by rcases h with rfl | rfl | rfl <;> rfl
theorem lp_4 {p : Nat} (h : isPol p) : lenA (p + 4) = 22 := by rcases h with rfl | rfl | rfl <;> rfl
theorem lp_5 {p : Nat} (h : isPol p) : lenA (p + 5) = 22 := by rcases h with rfl | rfl | rfl <;> rfl
theorem lp_6 {p : Nat} (h : isPol p) : lenA (p + 6) = 22 := by rcases h with rfl | rfl | rfl <;> rfl
theorem paf {I : IM} {x y : Nat} (hx : isPol x) (hy : isPol y) (hne : x + 7 ≤ y ∨ y + 7 ≤ x) : ∃ I', f_Pol_become x y I = some I' ∧ (∀ b, b < x ∨ x + 7 ≤ b → I' b = I b) ∧ (∀ k, k < 900 → I' (x + 1) k = I (y + 1) k ∧ I' (x + 2) k = I (y + 2) k) ∧ ∀ k, k < 22 → I' (x + 3) k = I (y + 3) k ∧ I' (x + 4) k = I (y + 4) k ∧ I' (x + 5) k = I (y + 5) k ∧ I' (x + 6) k = I (y + 6) k := by
  obtain ⟨I', e⟩ : ∃ z, z = CR (CR (CR (CR (CR (CR (up I x 0 (I y 0)) (y + 1) (x + 1) 900) (y + 2) (x + 2) 900) (y + 3) (x + 3) 22) (y + 4) (x + 4) 22) (y + 5) (x + 5) 22) (y + 6) (x + 6) 22 := ⟨_, rfl⟩
  have hf : f_Pol_become x y I = some I' := by
    unfold f_Pol_become
    simp only [lt]
    rw [cr_f (lp_1 hy) (lp_1 hx) (by decide), Option.bind_some]
    rw [cr_f (lp_2 hy) (lp_2 hx) (by decide), Option.bind_some]
    rw [cr_f (lp_3 hy) (lp_3 hx) (by decide), Option.bind_some]
    rw [cr_f (lp_4 hy) (lp_4 hx) (by decide), Option.bind_some]
    rw [cr_f (lp_5 hy) (lp_5 hx) (by decide), Option.bind_some]
    rw [cr_f (lp_6 hy) (lp_6 hx) (by decide), Option.bind_some, e]
  refine ⟨I', hf, fun b hb => fr_Pol_become hf hb, fun k hk => ⟨?_, ?_⟩, fun k hk => ⟨?_, ?_, ?_, ?_⟩⟩
  · rw [e, CR_b (by omega), CR_b (by omega), CR_b (by omega), CR_b (by omega), CR_b (by omega), CR_at hk, up_o (by omega)]
  · rw [e, CR_b (by omega), CR_b (by omega), CR_b (by omega), CR_b (by omega), CR_at hk, CR_b (by omega), up_o (by omega)]
  · rw [e, CR_b (by omega), CR_b (by omega), CR_b (by omega), CR_at hk, CR_b (by omega), CR_b (by omega), up_o (by omega)]
  · rw [e, CR_b (by omega), CR_b (by omega), CR_at hk, CR_b (by omega), CR_b (by omega), CR_b (by omega), up_o (by omega)]
  · rw [e, CR_b (by omega), CR_at hk, CR_b (by omega), CR_b (by omega), CR_b (by omega), CR_b (by omega), up_o (by omega)]
  · rw [e, CR_at hk, CR_b (by omega), CR_b (by omega), CR_b (by omega), CR_b (by omega), CR_b (by omega), up_o (by omega)]
theorem PC_m {A : AP} {x y : Nat} {I I' : IM} (w : WF A) (h1 : ∀ k, k < 900 → I' (x + 1) k = I (y + 1) k ∧ I' (x + 2) k = I (y + 2) k) (h2 : ∀ k, k < 22 → I' (x + 3) k = I (y + 3) k ∧ I' (x + 4) k = I (y + 4) k ∧ I' (x + 5) k = I (y + 5) k ∧ I' (x + 6) k = I (y + 6) k) (h : PC A y I) : PC A x I' := by
  obtain ⟨c1, c2, c3⟩ := h
  have hw := w.2.2.2.2.2.2.1
  refine ⟨fun k hk => ?_, fun s hs => ?_, fun s hs i g1 g2 => ?_⟩
  · obtain ⟨e3, e4, e5, e6⟩ := h2 k hk
    rw [e3, e4, e5, e6]
    exact c1 k hk
  · have := cfl w (show s + 1 ≤ aNs A by omega)
    obtain ⟨e1, e2⟩ := h1 (aCf A (s + 1) + s) (by omega)
    rw [e1, e2]
    exact c2 s hs
  · have := cfl w (show s + 1 ≤ aNs A by omega)
    obtain ⟨e1, e2⟩ := h1 (i + s) (by omega)
    rw [e1, e2]
    exact c3 s hs i g1 g2
