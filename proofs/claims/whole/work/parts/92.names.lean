/-! the names of a question, on both sides -/
def inW (x : Int32) : Prop := ¬ x < 0 ∧ x < 96
/-- an instruction read alike on both sides -/
def DEC (C R : IM) (kd a b c pl : Nat) : Prop := kd < 22 ∧ a < 8 ∧ b < 8 ∧ c < 8 ∧ pl < 64 ∧ C 35 4 = nI kd ∧ R MO 75 = nI kd ∧ C 35 5 = nI a ∧ R MO 76 = nI a ∧ C 35 6 = nI b ∧ R MO 77 = nI b ∧ C 35 7 = nI c ∧ R MO 78 = nI c ∧ C 35 8 = R MO 79 ∧ C 35 9 = R MO 80 ∧ C 35 2 = nI pl ∧ R MO 42 = nI pl ∧ C 35 3 = R A_codeTags pl ∧ (inW (R MO 80) → R MO 81 = 1) ∧ (¬ inW (R MO 80) → R MO 81 = 0)
theorem inW_n {x : Int32} (h : inW x) : ∃ k, k < 96 ∧ x = nI k := by
  have h2 := h.2
  rw [ti] at h2
  have h3 : x.toInt < 96 := h2
  exact ⟨x.toNatClampNeg, nat_lt h.1 h3, nof h.1⟩
theorem hasW {m : Nat} {x : Int32} {C : IM} : (inW x → f_Mch_hasWord m x C = some 1) ∧ (¬ inW x → f_Mch_hasWord m x C = some 0) := by
  have i96 : (96 : Int32) ≤ x ↔ ¬ x < 96 := by
    rw [tl, ti]
    simp only [Int32.reduceToInt]
    omega
  unfold f_Mch_hasWord inW
  refine ⟨fun ⟨h1, h2⟩ => ?_, fun h => ?_⟩
  · rw [if_neg h1, if_neg (fun z => i96.mp z h2)]
  · by_cases z : x < 0
    · rw [if_pos z]
    · rw [if_neg z, if_pos (i96.mpr (fun y => h ⟨z, y⟩))]
theorem rchW {C : IM} {kd : Nat} (hk : kd < 22) (h : C 35 4 = nI kd) : f_Stp_reachesWord C = some (if kd = 11 ∨ kd = 12 then 1 else 0) := by
  unfold f_Stp_reachesWord
  rw [h]
  have e11 : nI kd = 11 ↔ kd = 11 := ⟨fun z => nij (b := 11) (by omega) (by decide) z, fun z => by rw [z]; rfl⟩
  have e12 : nI kd = 12 ↔ kd = 12 := ⟨fun z => nij (b := 12) (by omega) (by decide) z, fun z => by rw [z]; rfl⟩
  congr 1
  by_cases z1 : kd = 11
  · rw [if_pos (e11.mpr z1), if_pos (Or.inl z1)]
  · rw [if_neg (fun y => z1 (e11.mp y))]
    by_cases z2 : kd = 12
    · rw [if_pos (e12.mpr z2), if_pos (Or.inr z2)]
    · rw [if_neg (fun y => z2 (e12.mp y)), if_neg (fun y => y.elim z1 z2)]
theorem kde {kd : Nat} (hk : kd < 22) (c : Nat) (hc : c < 5000) : nI kd = (OfNat.ofNat c : Int32) ↔ kd = c := ⟨fun z => nij (by omega) hc z, fun z => by rw [z]; rfl⟩
theorem ofW {m x kd : Nat} {C : IM} (hk : kd < 22) (h : C 35 4 = nI kd) (hx : lenA x = 96) : (¬ (kd = 11 ∨ kd = 12) → f_Stp_ofWord m x C = some 0) ∧ ((kd = 11 ∨ kd = 12) → ¬ inW (C 35 9) → f_Stp_ofWord m x C = some (-2)) ∧ ((kd = 11 ∨ kd = 12) → ∀ k, k < 96 → C 35 9 = nI k → f_Stp_ofWord m x C = some (C x k)) := by
  refine ⟨fun z => ?_, fun z y => ?_, fun z k hk2 e => ?_⟩
  · rw [f_Stp_ofWord, rchW hk h, if_neg z, Option.bind_some, if_pos rfl]
  · rw [f_Stp_ofWord, rchW hk h, if_pos z, Option.bind_some, if_neg (by decide), hasW.2 y, Option.bind_some, if_pos rfl, b_Stp_ofWord_38, b_Stp_ofWord_40]
  · have iw : inW (C 35 9) := by
      rw [e]
      exact ⟨fun z => by have := (nlt (b := 0) (by omega) (by decide)).mp z; omega, (nlt (b := 96) (by omega) (by decide)).mpr hk2⟩
    rw [f_Stp_ofWord, rchW hk h, if_pos z, Option.bind_some, if_neg (by decide), hasW.1 iw, Option.bind_some, if_neg (by decide), hx, e, if_neg (show ¬ Int32.ofNat 96 ≤ nI k from nk (N := 96) hk2 (by decide)), chk_i (nki hk2 (by decide)), b_Stp_ofWord_40, nkc (by omega)]
set_option maxHeartbeats 1000000 in
theorem nv_eq {m kd a b c pl : Nat} {C R : IM} (hm : isMch m) (d : DEC C R kd a b c pl) (q1 : Q1 C m R) (q2 : Q2 C m R) (q3 : Q3 C m R) (h69 : R MO 69 = 0) : ∀ k, k < 15 → ∃ v, f_Stp_nameValue m (nI k) C = some v ∧ f_Mod_nameValue (nI k) R = some v := by
  obtain ⟨hk, ha, hb, hc, hpl, d1, d2, d3, d4, d5, d6, d7, d8, d9, d10, d11, d12, d13, d14, d15⟩ := d
  obtain ⟨w1, w2, w3, w4, w5⟩ := q1
  have cas : ∀ x, f_Mod_nameValue x R = if x = 0 then (some (R MO 43)) else (if x = 1 then (chk (inb (R MO 76) 8) <| some (R A_registerTags (R MO 76 : Int32).toNatClampNeg)) else (if x = 2 then (chk (inb (R MO 77) 8) <| some (R A_registerTags (R MO 77 : Int32).toNatClampNeg)) else (if x = 3 then (chk (inb (R MO 78) 8) <| some (R A_registerTags (R MO 78 : Int32).toNatClampNeg)) else (if x = 4 then (chk (inb (R MO 76) 8) <| some (R A_registers (R MO 76 : Int32).toNatClampNeg)) else (if x = 5 then (chk (inb (R MO 77) 8) <| some (R A_registers (R MO 77 : Int32).toNatClampNeg)) else (if x = 6 then (chk (inb (R MO 78) 8) <| some (R A_registers (R MO 78 : Int32).toNatClampNeg)) else (if x = 7 then (if (if (R MO 75 : Int32) = (11 : Int32) then 1 else (if (R MO 75 : Int32) = (12 : Int32) then 1 else 0) : Int32) = 0 then (b_Mod_nameValue_202 R  0) else (if (R MO 81 : Int32) = 0 then (b_Mod_nameValue_202 R  (-2)) else (chk (inb (R MO 80) 96) <| b_Mod_nameValue_202 R  (R A_held (R MO 80 : Int32).toNatClampNeg)))) else (if x = 8 then (if (if (R MO 75 : Int32) = (11 : Int32) then 1 else (if (R MO 75 : Int32) = (12 : Int32) then 1 else 0) : Int32) = 0 then (b_Mod_nameValue_232 R  0) else (if (R MO 81 : Int32) = 0 then (b_Mod_nameValue_232 R  (-2)) else (chk (inb (R MO 80) 96) <| b_Mod_nameValue_232 R  (R A_owners (R MO 80 : Int32).toNatClampNeg)))) else (if x = 9 then (if (R MO 75 : Int32) = (18 : Int32) then (if (R MO 45 : Int32) ≤ 0 then (b_Mod_nameValue_258 R  ) else (b_Mod_nameValue_259 R  (R A_inputTags (0 : Int32).toNatClampNeg))) else (b_Mod_nameValue_258 R  )) else (if x = 10 then (some (R MO 79)) else (if x = 11 then (chk (inb (R MO 42) 64) <| some (R A_codeTags (R MO 42 : Int32).toNatClampNeg)) else (if x = 12 then (some (R MO 44)) else (if x = 13 then (some (R MO 34)) else (some ((R MO 52) + 2))))))))))))))) := by
    intro x
    unfold f_Mod_nameValue
    rw [if_pos h69]
  have e11 : (if nI kd = (11 : Int32) then 1 else (if nI kd = (12 : Int32) then 1 else 0) : Int32) = if kd = 11 ∨ kd = 12 then 1 else 0 := by
    by_cases z1 : kd = 11
    · rw [if_pos ((kde hk 11 (by decide)).mpr z1), if_pos (Or.inl z1)]
    · rw [if_neg (fun y => z1 ((kde hk 11 (by decide)).mp y))]
      by_cases z2 : kd = 12
      · rw [if_pos ((kde hk 12 (by decide)).mpr z2), if_pos (Or.inr z2)]
      · rw [if_neg (fun y => z2 ((kde hk 12 (by decide)).mp y)), if_neg (fun y => y.elim z1 z2)]
  have wrd : ∀ (x A : Nat) (y : Nat), lenA x = 96 → (∀ k, k < 96 → C x k = R A k) → ∃ v, f_Stp_ofWord m x C = some v ∧ (if (if (R MO 75 : Int32) = (11 : Int32) then 1 else (if (R MO 75 : Int32) = (12 : Int32) then 1 else 0) : Int32) = 0 then (some (0 : Int32)) else (if (R MO 81 : Int32) = 0 then some (-2) else (chk (inb (R MO 80) 96) <| some (R A (R MO 80 : Int32).toNatClampNeg)))) = some v := by
    intro x A y hx hr
    obtain ⟨o1, o2, o3⟩ := ofW (m := m) hk d1 hx
    rw [d2, e11]
    by_cases z : kd = 11 ∨ kd = 12
    · rw [if_pos z, if_neg (by decide)]
      by_cases iw : inW (R MO 80)
      · obtain ⟨k, hk2, ek⟩ := inW_n iw
        refine ⟨C x k, o3 z k hk2 (d10.trans ek), ?_⟩
        rw [d14 iw, if_neg (by decide), ek, chk_i (nki hk2 (by decide)), nkc (by omega), hr k hk2]
      · refine ⟨-2, o2 z (by rw [d10]; exact iw), ?_⟩
        rw [d15 iw, if_pos rfl]
    · exact ⟨0, o1 z, by rw [if_neg z, if_pos rfl]⟩
  intro k hk15
  have : k = 0 ∨ k = 1 ∨ k = 2 ∨ k = 3 ∨ k = 4 ∨ k = 5 ∨ k = 6 ∨ k = 7 ∨ k = 8 ∨ k = 9 ∨ k = 10 ∨ k = 11 ∨ k = 12 ∨ k = 13 ∨ k = 14 := by omega
  rcases this with rfl | rfl | rfl | rfl | rfl | rfl | rfl | rfl | rfl | rfl | rfl | rfl | rfl | rfl | rfl
  · refine ⟨R MO 43, ?_, ?_⟩
    · show some (C (m + 7) 8) = _
      rw [w5]
    · rw [cas]; rfl
  · refine ⟨R A_registerTags a, ?_, ?_⟩
    · show (chk (inb (C 35 5) 9) <| some (C (m + 7) (C 35 5).toNatClampNeg)) = _
      rw [d3, chk_i (nki (by omega) (by decide)), nkc (by omega), (w3 a ha).2]
    · rw [cas]
      show (chk (inb (R MO 76) 8) <| some (R A_registerTags (R MO 76).toNatClampNeg)) = _
      rw [d4, chk_i (nki ha (by decide)), nkc (by omega)]
  · refine ⟨R A_registerTags b, ?_, ?_⟩
    · show (chk (inb (C 35 6) 9) <| some (C (m + 7) (C 35 6).toNatClampNeg)) = _
      rw [d5, chk_i (nki (by omega) (by decide)), nkc (by omega), (w3 b hb).2]
    · rw [cas]
      show (chk (inb (R MO 77) 8) <| some (R A_registerTags (R MO 77).toNatClampNeg)) = _
      rw [d6, chk_i (nki hb (by decide)), nkc (by omega)]
  · refine ⟨R A_registerTags c, ?_, ?_⟩
    · show (chk (inb (C 35 7) 9) <| some (C (m + 7) (C 35 7).toNatClampNeg)) = _
      rw [d7, chk_i (nki (by omega) (by decide)), nkc (by omega), (w3 c hc).2]
    · rw [cas]
      show (chk (inb (R MO 78) 8) <| some (R A_registerTags (R MO 78).toNatClampNeg)) = _
      rw [d8, chk_i (nki hc (by decide)), nkc (by omega)]
  · refine ⟨R A_registers a, ?_, ?_⟩
    · show (chk (inb (C 35 5) 9) <| some (C (m + 6) (C 35 5).toNatClampNeg)) = _
      rw [d3, chk_i (nki (by omega) (by decide)), nkc (by omega), (w3 a ha).1]
    · rw [cas]
      show (chk (inb (R MO 76) 8) <| some (R A_registers (R MO 76).toNatClampNeg)) = _
      rw [d4, chk_i (nki ha (by decide)), nkc (by omega)]
  · refine ⟨R A_registers b, ?_, ?_⟩
    · show (chk (inb (C 35 6) 9) <| some (C (m + 6) (C 35 6).toNatClampNeg)) = _
      rw [d5, chk_i (nki (by omega) (by decide)), nkc (by omega), (w3 b hb).1]
    · rw [cas]
      show (chk (inb (R MO 77) 8) <| some (R A_registers (R MO 77).toNatClampNeg)) = _
      rw [d6, chk_i (nki hb (by decide)), nkc (by omega)]
  · refine ⟨R A_registers c, ?_, ?_⟩
    · show (chk (inb (C 35 7) 9) <| some (C (m + 6) (C 35 7).toNatClampNeg)) = _
      rw [d7, chk_i (nki (by omega) (by decide)), nkc (by omega), (w3 c hc).1]
    · rw [cas]
      show (chk (inb (R MO 78) 8) <| some (R A_registers (R MO 78).toNatClampNeg)) = _
      rw [d8, chk_i (nki hc (by decide)), nkc (by omega)]
  · obtain ⟨v, v1, v2⟩ := wrd (m + 4) A_held 0 (ln_4 hm) (fun k hk => (w2 k hk).2.1)
    refine ⟨v, ?_, ?_⟩
    · show (Option.bind (f_Stp_ofWord m (m + 4) C) fun z => some z) = _
      rw [v1, Option.bind_some]
    · rw [cas]
      exact v2
  · obtain ⟨v, v1, v2⟩ := wrd (m + 5) A_owners 0 (ln_5 hm) (fun k hk => (w2 k hk).2.2)
    refine ⟨v, ?_, ?_⟩
    · show (Option.bind (f_Stp_ofWord m (m + 5) C) fun z => some z) = _
      rw [v1, Option.bind_some]
    · rw [cas]
      exact v2
  · have e45 : C (m + 13) (5 : Int32).toNatClampNeg = R MO 45 := q2.2.2.2.2.2.2.1
    refine ⟨if nI kd = 18 then (if R MO 45 ≤ 0 then 0 else R A_inputTags 0) else 0, ?_, ?_⟩
    · show (if (C 35 4 : Int32) = (18 : Int32) then (if (C (m + 13) (5 : Int32).toNatClampNeg : Int32) ≤ 0 then (b_Stp_nameValue_191 m C) else (b_Stp_nameValue_192 m C (C (m + 9) 0))) else (b_Stp_nameValue_191 m C)) = _
      rw [d1, e45]
      by_cases z : nI kd = 18
      · rw [if_pos z, if_pos z]
        by_cases y : R MO 45 ≤ 0
        · rw [if_pos y, if_pos y]; rfl
        · rw [if_neg y, if_neg y, (q3.2.2 0 (by rw [tl] at y; simp only [Int32.reduceToInt] at y; omega)).2]; rfl
      · rw [if_neg z, if_neg z]; rfl
    · rw [cas]
      show (if (R MO 75 : Int32) = (18 : Int32) then (if (R MO 45 : Int32) ≤ 0 then (b_Mod_nameValue_258 R) else (b_Mod_nameValue_259 R (R A_inputTags 0))) else (b_Mod_nameValue_258 R)) = _
      rw [d2]
      by_cases z : nI kd = 18
      · rw [if_pos z, if_pos z]
        by_cases y : R MO 45 ≤ 0
        · rw [if_pos y, if_pos y]; rfl
        · rw [if_neg y, if_neg y]; rfl
      · rw [if_neg z, if_neg z]; rfl
  · refine ⟨R MO 79, ?_, ?_⟩
    · show some (C 35 8) = _
      rw [d9]
    · rw [cas]; rfl
  · refine ⟨R A_codeTags pl, ?_, ?_⟩
    · show some (C 35 3) = _
      rw [d13]
    · rw [cas]
      show (chk (inb (R MO 42) 64) <| some (R A_codeTags (R MO 42).toNatClampNeg)) = _
      rw [d12, chk_i (nki hpl (by decide)), nkc (by omega)]
  · refine ⟨R MO 44, ?_, ?_⟩
    · show some (C m 1) = _
      rw [q2.2.1]
    · rw [cas]; rfl
  · refine ⟨R MO 34, ?_, ?_⟩
    · show some (C m 0) = _
      rw [q2.1]
    · rw [cas]; rfl
  · refine ⟨R MO 52 + 2, ?_, ?_⟩
    · show some (C (m + 13) 6 + 2) = _
      rw [q2.2.2.2.2.2.2.2.1]
    · rw [cas]; rfl
