/-! an instruction is done -/
theorem sreg {m r : Nat} {C : IM} {v t : Int32} (hr : r < 9) : f_Mch_setRegister m (nI r) v t C = some (up (up C (m + 6) r v) (m + 7) r t) := by
  rw [f_Mch_setRegister, if_neg (show ¬ nI r < 0 from fun z => by have := (nlt (b := 0) (by omega) (by decide)).mp z; omega), if_neg (show ¬ (8 : Int32) < nI r from fun z => by have := (nlt (a := 8) (by decide) (by omega)).mp z; omega), chk_i (nki hr (by decide))]
  simp only [lt]
  rw [nkc (by omega), b_Mch_setRegister_24]
theorem Q1_reg {C R : IM} {m a : Nat} {v t : Int32} (ha : a < 8) (h : Q1 C m R) : Q1 (up (up C (m + 6) a v) (m + 7) a t) m (up (up R A_registers a v) A_registerTags a t) := by
  obtain ⟨h1, h2, h3, h4, h5⟩ := h
  refine ⟨fun k hk => ?_, fun k hk => ?_, fun k hk => ⟨?_, ?_⟩, ?_, ?_⟩
  · rw [fu (by omega), fu (by omega), fu (show m + 2 ≠ m + 7 by omega), fu (show m + 2 ≠ m + 6 by omega), fu (by decide), fu (by decide), fu (show A_codeTags ≠ A_registerTags by decide), fu (show A_codeTags ≠ A_registers by decide)]
    exact h1 k hk
  · rw [fu (by omega), fu (by omega), fu (show m + 4 ≠ m + 7 by omega), fu (show m + 4 ≠ m + 6 by omega), fu (show m + 5 ≠ m + 7 by omega), fu (show m + 5 ≠ m + 6 by omega), fu (by decide), fu (by decide), fu (show A_held ≠ A_registerTags by decide), fu (show A_held ≠ A_registers by decide), fu (show A_owners ≠ A_registerTags by decide), fu (show A_owners ≠ A_registers by decide)]
    exact h2 k hk
  · rw [fu (by omega), fu (show A_registers ≠ A_registerTags by decide)]
    by_cases q : k = a
    · rw [q, up_self, up_self]
    · rw [up_ne (Or.inr q), up_ne (Or.inr q)]; exact (h3 k hk).1
  · by_cases q : k = a
    · rw [q, up_self, up_self]
    · rw [up_ne (Or.inr q), up_ne (Or.inr q), up_ne (Or.inr q), up_ne (Or.inr q)]; exact (h3 k hk).2
  · rw [fu (by omega), up_ne (Or.inr (by omega)), fu (show MO ≠ A_registerTags by decide), fu (show MO ≠ A_registers by decide)]; exact h4
  · rw [up_ne (Or.inr (by omega)), fu (by omega), fu (show MO ≠ A_registerTags by decide), fu (show MO ≠ A_registers by decide)]; exact h5
theorem Q1_pc {C R : IM} {m : Nat} {v t : Int32} (h : Q1 C m R) : Q1 (up (up C (m + 6) 8 v) (m + 7) 8 t) m (up (up R MO 42 v) MO 43 t) := by
  obtain ⟨h1, h2, h3, h4, h5⟩ := h
  refine ⟨fun k hk => ?_, fun k hk => ?_, fun k hk => ⟨?_, ?_⟩, ?_, ?_⟩
  · rw [fu (by omega), fu (by omega), fu (show m + 2 ≠ m + 7 by omega), fu (show m + 2 ≠ m + 6 by omega), fu (by decide), fu (by decide), fu (show A_codeTags ≠ MO by decide), fu (show A_codeTags ≠ MO by decide)]
    exact h1 k hk
  · rw [fu (by omega), fu (by omega), fu (show m + 4 ≠ m + 7 by omega), fu (show m + 4 ≠ m + 6 by omega), fu (show m + 5 ≠ m + 7 by omega), fu (show m + 5 ≠ m + 6 by omega), fu (by decide), fu (by decide), fu (show A_held ≠ MO by decide), fu (show A_held ≠ MO by decide), fu (show A_owners ≠ MO by decide), fu (show A_owners ≠ MO by decide)]
    exact h2 k hk
  · rw [fu (by omega), fu (show A_registers ≠ MO by decide), fu (show A_registers ≠ MO by decide), up_ne (Or.inr (by omega))]; exact (h3 k hk).1
  · rw [up_ne (Or.inr (by omega)), fu (by omega), fu (show A_registerTags ≠ MO by decide), fu (show A_registerTags ≠ MO by decide)]; exact (h3 k hk).2
  · rw [fu (by omega), up_self, up_ne (Or.inr (by decide)), up_self]
  · rw [up_self, up_self]
theorem Q1_word {C R : IM} {m w : Nat} {v h o : Int32} (q : Q1 C m R) : Q1 (up (up (up C (m + 3) w v) (m + 4) w h) (m + 5) w o) m (up (up (up R A_ints w v) A_held w h) A_owners w o) := by
  obtain ⟨h1, h2, h3, h4, h5⟩ := q
  have cb : ∀ b, b ≠ m + 3 → b ≠ m + 4 → b ≠ m + 5 → up (up (up C (m + 3) w v) (m + 4) w h) (m + 5) w o b = C b := fun b z1 z2 z3 => by rw [fu z3, fu z2, fu z1]
  have rb : ∀ b, b ≠ A_ints → b ≠ A_held → b ≠ A_owners → up (up (up R A_ints w v) A_held w h) A_owners w o b = R b := fun b z1 z2 z3 => by rw [fu z3, fu z2, fu z1]
  refine ⟨fun k hk => ?_, fun k hk => ⟨?_, ?_, ?_⟩, fun k hk => ?_, ?_, ?_⟩
  · rw [cb _ (by omega) (by omega) (by omega), cb (m + 2) (by omega) (by omega) (by omega), rb _ (by decide) (by decide) (by decide), rb A_codeTags (by decide) (by decide) (by decide)]; exact h1 k hk
  · rw [fu (by omega), fu (by omega), fu (show A_ints ≠ A_owners by decide), fu (show A_ints ≠ A_held by decide)]
    by_cases z : k = w
    · rw [z, up_self, up_self]
    · rw [up_ne (Or.inr z), up_ne (Or.inr z)]; exact (h2 k hk).1
  · rw [fu (by omega), fu (show A_held ≠ A_owners by decide)]
    by_cases z : k = w
    · rw [z, up_self, up_self]
    · rw [up_ne (Or.inr z), up_ne (Or.inr z), up_ne (Or.inr z), up_ne (Or.inr z)]; exact (h2 k hk).2.1
  · by_cases z : k = w
    · rw [z, up_self, up_self]
    · rw [up_ne (Or.inr z), up_ne (Or.inr z), up_ne (Or.inr z), up_ne (Or.inr z), up_ne (Or.inr z), up_ne (Or.inr z)]; exact (h2 k hk).2.2
  · rw [cb _ (by omega) (by omega) (by omega), cb (m + 7) (by omega) (by omega) (by omega), rb _ (by decide) (by decide) (by decide), rb A_registerTags (by decide) (by decide) (by decide)]; exact h3 k hk
  · rw [cb _ (by omega) (by omega) (by omega), rb _ (by decide) (by decide) (by decide)]; exact h4
  · rw [cb _ (by omega) (by omega) (by omega), rb _ (by decide) (by decide) (by decide)]; exact h5
/-- what both sides' perform leaves alone -/
def PF (m : Nat) (C R C' R' : IM) : Prop := (∀ b, ¬ (m + 3 ≤ b ∧ b ≤ m + 10) → b ≠ m + 13 → C' b = C b) ∧ (∀ j, j ≠ 1 → j ≠ 5 → j ≠ 6 → C' (m + 13) j = C (m + 13) j) ∧ (∀ b, b ≠ MO → ¬ (121 ≤ b ∧ b ≤ 128) → R' b = R b) ∧ ∀ j, j ≠ 45 → j ≠ 48 → j ≠ 50 → j ≠ 52 → R' MO j = R MO j
/-- both sides after perform, the place in the code not yet set -/
def PG (b n m : Nat) (C R : IM) (kd : Nat) : Prop := ∃ C1 R' to, f_Stp_perform n m C = some (up (up C1 (m + 6) 8 to) (m + 7) 8 (C 35 13)) ∧ f_Mod_perform n R = some (to, R') ∧ Q1 C1 m R' ∧ Q2 C1 m R' ∧ Q3 C1 m R' ∧ Q4 (b + 1) C1 m R' ∧ PF m C R C1 R' ∧ R' MO 50 = if kd = 0 then 1 else 0
theorem b317 {n m : Nat} {C : IM} {x : Int32} : b_Stp_perform_317 n m x C = some (up (up C (m + 6) 8 x) (m + 7) 8 (C 35 13)) := by
  rw [b_Stp_perform_317, show (8 : Int32) = nI 8 from rfl, sreg (by decide), Option.bind_some]
theorem res_eq {m kd a b c pl : Nat} {C R : IM} (d : DEC C R kd a b c pl) (q1 : Q1 C m R) (hk : (1 ≤ kd ∧ kd ≤ 11) ∨ kd = 21) (hw : kd = 11 → inW (R MO 80)) : ∃ v, f_Stp_result m C = some v ∧ f_Mod_result R = some v := by
  obtain ⟨hk2, ha, hb, hc, hpl, d1, d2, d3, d4, d5, d6, d7, d8, d9, d10, d11, d12, d13, d14, d15⟩ := d
  obtain ⟨w1, w2, w3, w4, w5⟩ := q1
  have i6 : inb (C 35 6) 9 := by rw [d5]; exact nki (by omega) (by decide)
  have i7 : inb (C 35 7) 9 := by rw [d7]; exact nki (by omega) (by decide)
  have j6 : inb (R MO 77) 8 := by rw [d6]; exact nki (by omega) (by decide)
  have j7 : inb (R MO 78) 8 := by rw [d8]; exact nki (by omega) (by decide)
  have x6 : C (m + 6) (C 35 6).toNatClampNeg = R A_registers (R MO 77).toNatClampNeg := by rw [d5, d6, nkc (by omega)]; exact (w3 b hb).1
  have x7 : C (m + 6) (C 35 7).toNatClampNeg = R A_registers (R MO 78).toNatClampNeg := by rw [d7, d8, nkc (by omega)]; exact (w3 c hc).1
  unfold f_Stp_result f_Mod_result
  rw [chk_i i6, chk_i i7, chk_i j6, chk_i j7, d1, d2, x6, x7]
  have : kd = 1 ∨ kd = 2 ∨ kd = 3 ∨ kd = 4 ∨ kd = 5 ∨ kd = 6 ∨ kd = 7 ∨ kd = 8 ∨ kd = 9 ∨ kd = 10 ∨ kd = 11 ∨ kd = 21 := by omega
  rcases this with rfl | rfl | rfl | rfl | rfl | rfl | rfl | rfl | rfl | rfl | rfl | rfl
  · exact ⟨R MO 79, congrArg some d9, rfl⟩
  · exact ⟨_, rfl, rfl⟩
  · exact ⟨_, rfl, rfl⟩
  · exact ⟨_, rfl, rfl⟩
  · exact ⟨_, rfl, rfl⟩
  · exact ⟨_, rfl, rfl⟩
  · exact ⟨_, rfl, rfl⟩
  · exact ⟨_, rfl, rfl⟩
  · exact ⟨_, rfl, rfl⟩
  · exact ⟨_, rfl, rfl⟩
  · have iw := hw rfl
    obtain ⟨k, hk3, ek⟩ := inW_n iw
    refine ⟨R A_ints k, ?_, ?_⟩
    · show (Option.bind (f_Mch_hasWord m (C 35 9) C) fun v6 => if v6 = 0 then (b_Stp_result_161 m C 0) else (chk (inb (C 35 9) 96) <| b_Stp_result_161 m C (C (m + 3) (C 35 9).toNatClampNeg))) = _
      rw [d10, hasW.1 iw, Option.bind_some, if_neg (by decide), ek, chk_i (nki hk3 (by decide)), b_Stp_result_161, nkc (by omega), (w2 k hk3).1]
    · show (chk (inb (R MO 80) 96) <| some (R A_ints (R MO 80).toNatClampNeg)) = _
      rw [ek, chk_i (nki hk3 (by decide)), nkc (by omega)]
  · refine ⟨R A_registers a, ?_, ?_⟩
    · show (chk (inb (C 35 5) 9) <| some (C (m + 6) (C 35 5).toNatClampNeg)) = _
      rw [d3, chk_i (nki (by omega) (by decide)), nkc (by omega), (w3 a ha).1]
    · show (chk (inb (R MO 76) 8) <| some (R A_registers (R MO 76).toNatClampNeg)) = _
      rw [d4, chk_i (nki ha (by decide)), nkc (by omega)]
