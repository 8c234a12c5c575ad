/-! tokens: the reference's advance -/
theorem inF {x a b : Int32} {R : IM} : f_Mod_in x a b R = some (if a ≤ x ∧ x ≤ b then 1 else 0) := by
  by_cases c1 : x < a
  · have : ¬ (a ≤ x ∧ x ≤ b) := fun z => ile.mpr c1 z.1
    rw [if_neg this]
    simp [f_Mod_in, c1, chk]
  · have a1 : a ≤ x := Decidable.of_not_not (fun z => c1 (ile.mp z))
    by_cases c2 : b < x
    · have : ¬ (a ≤ x ∧ x ≤ b) := fun z => ile.mpr c2 z.2
      rw [if_neg this]
      simp [f_Mod_in, c1, c2, chk]
    · have a2 : x ≤ b := Decidable.of_not_not (fun z => c2 (ile.mp z))
      rw [if_pos ⟨a1, a2⟩]
      simp [f_Mod_in, c1, c2, chk]
/-- the reference's token for one of the class -/
def tokR (c : Nat) (r : Int32) : Prop := (c ≠ 102 → r = nI (m2r c)) ∧ (c = 102 → r = 201 ∨ r = 69)
theorem waR {T : Nat → Int32} {N n d : Nat} {J : JM} {R : IM} (hJ : JOK J) (hn : 1000 ≤ n) (hN : N ≤ 900) (hd : d ≤ N) (tx : TXr T N R) : ∀ (e f w : Nat) (x3 : Int32), w + e = 70 → e < f → ∃ r, l_Mod_wordAt_7 n J R f (nI (N - d)) (nI (N - pLr T N d)) x3 (nI w) = some r ∧ ((r = x3 ∧ ∀ u, w ≤ u → u < 70 → ¬ (pLw T N d = rLs.getD u [] ∧ rLs.getD u [] ≠ [])) ∨ ∃ u, w ≤ u ∧ u < 70 ∧ pLw T N d = rLs.getD u [] ∧ rLs.getD u [] ≠ [] ∧ r = nI u)
  | 0, f + 1, w, x3, he, _ => by
    have hw : w = 70 := by omega
    subst hw
    exact ⟨x3, by rw [l_Mod_wordAt_7, if_pos (by decide)], Or.inl ⟨rfl, fun u a b => by omega⟩⟩
  | e + 1, f + 1, w, x3, he, hf => by
    have hw : w < 70 := by omega
    have jw : (J A_words w).toInt = leN (rLs.getD w []) := by rw [rl_le w hw]; exact congrArg Int64.toInt (hJ.2 w hw)
    have st := mtR (n := n) (D := 0) (H := l_Mod_wordAt_7 n J R f) (x1 := nI (N - d)) (x3 := x3) hJ hN hw tx d n (rLs.getD w []) (J A_words w) hd (by omega) (rl_ok w hw) jw id
    obtain ⟨r, g1, g2⟩ := waR hJ hn hN hd tx e f (w + 1) (if pLw T N d = rLs.getD w [] ∧ rLs.getD w [] ≠ [] then nI w else x3) (by omega) (by omega)
    refine ⟨r, ?_, ?_⟩
    · rw [l_Mod_wordAt_7, if_neg (show ¬ (70 : Int32) ≤ nI w from nk (N := 70) hw (by decide)), chk_i (nki hw (by decide)), nkc (by omega), st]
      exact g1
    · rcases g2 with ⟨a, b⟩ | ⟨u, a, b, c, d', e'⟩
      · by_cases z : pLw T N d = rLs.getD w [] ∧ rLs.getD w [] ≠ []
        · rw [if_pos z] at a
          exact Or.inr ⟨w, Nat.le_refl _, hw, z.1, z.2, a⟩
        · rw [if_neg z] at a
          refine Or.inl ⟨a, fun u h1 h2 => ?_⟩
          by_cases y : u = w
          · rw [y]; exact z
          · exact b u (by omega) h2
      · exact Or.inr ⟨u, by omega, b, c, d', e'⟩
theorem w69 : ∀ k, k < 50 → wLs.getD k [] ≠ rLs.getD 69 [] := by decide +kernel
theorem wrdR {T : Nat → Int32} {N n d : Nat} {J : JM} {R : IM} (hJ : JOK J) (hn : 1000 ≤ n) (hN : N ≤ 900) (hd : d ≤ N) (tx : TXr T N R) : ∃ r, f_Mod_wordAt n J (nI (N - d)) (nI (N - pLr T N d)) R = some r ∧ tokR (wix (pLw T N d)) r := by
  obtain ⟨r, g1, g2⟩ := waR (n := n) hJ hn hN hd tx 70 n 0 201 (by omega) (by omega)
  refine ⟨r, g1, ?_⟩
  rcases wix_s (ls := pLw T N d) with ⟨z, y⟩ | ⟨z, y⟩
  · refine ⟨fun w => absurd z w, fun _ => ?_⟩
    rcases g2 with ⟨a, -⟩ | ⟨u, -, b, c, d', e'⟩
    · exact Or.inl a
    · rcases rl_i u b d' with w | ⟨k, hk, ek⟩
      · rw [w] at e'; exact Or.inr e'
      · exfalso
        refine y k hk ?_
        rw [← (rl_m k hk).1, ek, c]
  · refine ⟨fun _ => ?_, fun w => by omega⟩
    rcases g2 with ⟨a, b⟩ | ⟨u, -, b, c, d', e'⟩
    · exfalso
      obtain ⟨m1, m2⟩ := rl_m _ z
      refine b (m2r (wix (pLw T N d))) (by omega) (by omega) ⟨?_, ?_⟩
      · rw [m1, y]
      · rw [m1]; exact (wl_ok _ z).2.1
    · rcases rl_i u b d' with w | ⟨k, hk, ek⟩
      · exfalso
        rw [w] at c
        exact w69 _ z (by rw [y, c])
      · have : k = wix (pLw T N d) := wl_un k hk _ z (by rw [y, ← (rl_m k hk).1, ek, c])
        rw [e', ← ek, this]
theorem ltR {T : Nat → Int32} {N n : Nat} {J : JM} (hN : N ≤ 900) : ∀ (d f : Nat) (R : IM), d ≤ N → d < f → TXr T N R → R MO 13 = nI (N - d) → l_Mod_advance_149 n J f R = Option.bind (f_Mod_wordAt n J (R MO 12) (nI (N - pLr T N d)) (up R MO 13 (nI (N - pLr T N d)))) fun v => some (up (up R MO 13 (nI (N - pLr T N d))) MO 10 v)
  | 0, f + 1, R, hd, _, tx, h => by
    rw [l_Mod_advance_149, h, sgR hN hd tx, Option.bind_some, inF, Option.bind_some, if_pos rfl, if_neg (show ¬ ((97 : Int32) ≤ 0 ∧ (0 : Int32) ≤ 122) by decide), if_pos rfl, pLr, up_id h]
    rfl
  | d + 1, f + 1, R, hd, hf, tx, h => by
    rw [l_Mod_advance_149, h, sgR hN hd tx, Option.bind_some, inF, Option.bind_some, if_neg (Nat.succ_ne_zero d), pLr]
    by_cases c1 : 97 ≤ T (N - (d + 1)) ∧ T (N - (d + 1)) ≤ 122
    · have := ltR (n := n) (J := J) hN d f (up R MO 13 (nI (N - d))) (by omega) (by omega) (TXr_u tx (by decide)) up_self
      rw [if_pos c1, if_neg (by decide), if_pos c1, lt, nk1, show N - (d + 1) + 1 = N - d by omega, this, up_up, up_ne (Or.inr (show 12 ≠ 13 by decide))]
    · rw [if_neg c1, if_pos rfl, if_neg c1, up_id h]
      rfl
theorem dgv {v c : Int32} : 10 * v + c - 48 = v * 10 + (c - 48) := by
  rw [Int32.mul_comm, Int32.sub_eq_add_neg, Int32.sub_eq_add_neg, Int32.add_assoc]
theorem nuR {T : Nat → Int32} {N n D : Nat} {J : JM} (hN : N ≤ 900) (hD : D ≤ N) : ∀ (d f i : Nat) (v : Int32) (R : IM), d + i = D → d < f → TXr T N R → R MO 12 = nI (N - D) → R MO 13 = nI (N - d) → R MO 11 = v → ∃ R', l_Mod_advance_215 n J f R = some R' ∧ (∀ b, b ≠ MO → R' b = R b) ∧ (∀ j, j ≠ 10 → j ≠ 11 → j ≠ 13 → R' MO j = R MO j) ∧ R' MO 10 = (if D - (pNv T N d i v).2 ≤ 7 then 200 else 201) ∧ R' MO 11 = (pNv T N d i v).1 ∧ R' MO 13 = nI (N - (pNv T N d i v).2) := by
  have fin : ∀ (d i : Nat) (v : Int32) (R : IM), d ≤ N → d + i = D → R MO 12 = nI (N - D) → R MO 13 = nI (N - d) → R MO 11 = v → ∀ f, (l_Mod_advance_215 n J (f + 1) R = some (up R MO 10 (if (R MO 13 - R MO 12 : Int32) ≤ 7 then 200 else 201))) → ∃ R', l_Mod_advance_215 n J (f + 1) R = some R' ∧ (∀ b, b ≠ MO → R' b = R b) ∧ (∀ j, j ≠ 10 → j ≠ 11 → j ≠ 13 → R' MO j = R MO j) ∧ R' MO 10 = (if D - d ≤ 7 then 200 else 201) ∧ R' MO 11 = v ∧ R' MO 13 = nI (N - d) := by
    intro d i v R hdN hd h12 h13 h11 f e
    refine ⟨_, e, fun b hb => fu hb, fun j z _ _ => up_ne (Or.inr z), ?_, by rw [up_ne (Or.inr (by decide))]; exact h11, by rw [up_ne (Or.inr (by decide))]; exact h13⟩
    have es : nI (N - d) - nI (N - D) = nI i := by rw [nsb (by omega)]; congr 1; omega
    rw [up_self, h13, h12, es]
    by_cases z : i ≤ 7
    · rw [if_pos (show nI i ≤ 7 from (nle (b := 7) (by omega) (by decide)).mpr z), if_pos (by omega)]
    · rw [if_neg (show ¬ nI i ≤ 7 from fun y => z ((nle (b := 7) (by omega) (by decide)).mp y)), if_neg (by omega)]
  intro d
  induction d with
  | zero =>
    intro f i v R hd hf tx h12 h13 h11
    obtain ⟨f', hf'⟩ : ∃ f', f = f' + 1 := ⟨f - 1, by omega⟩
    subst hf'
    refine fin 0 i v R (by omega) hd h12 h13 h11 f' ?_
    rw [l_Mod_advance_215]
    have e : f_Mod_sign (R MO 13) R = some 0 := by rw [h13, sgR hN (Nat.zero_le _) tx, if_pos rfl]
    rw [e, Option.bind_some, inF, Option.bind_some, if_neg (show ¬ ((48 : Int32) ≤ 0 ∧ (0 : Int32) ≤ 57) by decide), if_pos rfl, lt]
    rfl
  | succ d ih =>
    intro f i v R hd hf tx h12 h13 h11
    obtain ⟨f', hf'⟩ : ∃ f', f = f' + 1 := ⟨f - 1, by omega⟩
    subst hf'
    have e : f_Mod_sign (R MO 13) R = some (T (N - (d + 1))) := by rw [h13, sgR hN (by omega) tx, if_neg (Nat.succ_ne_zero d)]
    rw [pNv]
    by_cases c1 : 48 ≤ T (N - (d + 1)) ∧ T (N - (d + 1)) ≤ 57
    · rw [if_pos c1]
      have es : R MO 13 - R MO 12 = nI i := by rw [h13, h12, nsb (by omega)]; congr 1; omega
      have go : ∀ u : Int32, ∃ R', b_Mod_advance_274 n J (l_Mod_advance_215 n J f') u R = some R' ∧ (∀ b, b ≠ MO → R' b = R b) ∧ (∀ j, j ≠ 10 → j ≠ 11 → j ≠ 13 → R' MO j = R MO j) ∧ R' MO 10 = (if D - (pNv T N d (i + 1) u).2 ≤ 7 then 200 else 201) ∧ R' MO 11 = (pNv T N d (i + 1) u).1 ∧ R' MO 13 = nI (N - (pNv T N d (i + 1) u).2) := fun u => by
        obtain ⟨R', g1, g2, g3, g4, g5, g6⟩ := ih f' (i + 1) u (up (up R MO 11 u) MO 13 (nI (N - d))) (by omega) (by omega) (TXr_u (TXr_u tx (by decide)) (by decide)) (by rw [up_ne (Or.inr (by decide)), up_ne (Or.inr (by decide))]; exact h12) up_self (by rw [up_ne (Or.inr (by decide)), up_self])
        refine ⟨R', ?_, fun b hb => by rw [g2 b hb, fu hb, fu hb], fun j z1 z2 z3 => by rw [g3 j z1 z2 z3, up_ne (Or.inr z3), up_ne (Or.inr z2)], g4, g5, g6⟩
        rw [b_Mod_advance_274, lt, lt, up_ne (Or.inr (show 13 ≠ 11 by decide)), h13, nk1, show N - (d + 1) + 1 = N - d by omega]
        exact g1
      by_cases c7 : i < 7
      · rw [if_pos c7]
        obtain ⟨R', g⟩ := go (v * 10 + (T (N - (d + 1)) - 48))
        refine ⟨R', ?_, g.2⟩
        rw [l_Mod_advance_215, e, Option.bind_some, inF, Option.bind_some, if_pos c1, if_neg (by decide), es, if_neg (show ¬ (7 : Int32) ≤ nI i from nk (N := 7) c7 (by decide)), Option.bind_some, h11, dgv]
        exact g.1
      · rw [if_neg c7]
        obtain ⟨R', g⟩ := go v
        refine ⟨R', ?_, g.2⟩
        rw [l_Mod_advance_215, e, Option.bind_some, inF, Option.bind_some, if_pos c1, if_neg (by decide), es, if_pos (show (7 : Int32) ≤ nI i from (nle (a := 7) (by decide) (by omega)).mpr (by omega)), h11]
        exact g.1
    · rw [if_neg c1]
      refine fin (d + 1) i v R (by omega) hd h12 h13 h11 f' ?_
      rw [l_Mod_advance_215, e, Option.bind_some, inF, Option.bind_some, if_neg c1, if_pos rfl, lt]
      rfl
theorem isg {x : Int32} {R : IM} : f_Mod_isSign x R = some (if x ∈ bs_sg then 1 else 0) := by
  unfold f_Mod_isSign b_Mod_isSign_132 bs_sg
  by_cases h : x = 33 ∨ x = 38 ∨ x = 40 ∨ x = 41 ∨ x = 43 ∨ x = 44 ∨ x = 45 ∨ x = 58 ∨ x = 59 ∨ x = 60 ∨ x = 61 ∨ x = 63 ∨ x = 94 ∨ x = 124 ∨ x = 126
  · rcases h with h | h | h | h | h | h | h | h | h | h | h | h | h | h | h <;> rw [h] <;> rfl
  · simp only [not_or] at h
    obtain ⟨a1, a2, a3, a4, a5, a6, a7, a8, a9, b1, b2, b3, b4, b5, b6⟩ := h
    rw [if_neg a1, if_neg a2, if_neg a3, if_neg a4, if_neg a5, if_neg a6, if_neg a7, if_neg a8, if_neg a9, if_neg b1, if_neg b2, if_neg b3, if_neg b4, if_neg b5, if_neg b6, if_neg]
    simp only [List.mem_cons, List.not_mem_nil, or_false, not_or]
    exact ⟨a8, a9, b2, b1, b5, a2, b4, a5, a7, a1, b6, a3, a4, a6, b3⟩
theorem sg_m : ∀ c, c < 127 → nI c ∈ bs_sg → m2r (128 + c) = c + 400 ∧ 128 + c ≠ 102 := by decide +kernel
