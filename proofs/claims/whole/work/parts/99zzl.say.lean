/-! what the reference says: a sign, a word, a number -/
/-- the reference's list holds L; the rest is as it was -/
def RSa (I0 : IM) (L : List Int32) (I : IM) : Prop := I MO 8 = nI L.length ∧ (∀ j, j < L.length → I A_list j = L.getD j 0) ∧ (∀ a, a ≠ MO → a ≠ A_list → I a = I0 a) ∧ ∀ k, k ≠ 8 → I MO k = I0 MO k
theorem up_row {I : IM} {a b k : Nat} {x : Int32} (h : b ≠ a) : up I a k x b = I b := if_neg h
theorem say_1 {I0 I : IM} {L : List Int32} {c : Int64} (h : RSa I0 L I) (hl : L.length < 100) : ∃ I', f_Mod_say c I = some I' ∧ RSa I0 (L ++ [c.toInt32]) I' := by
  obtain ⟨h1, h2, h3, h4⟩ := h
  have hc : (I MO 8).toNatClampNeg = L.length := by rw [h1, nkc (by omega)]
  refine ⟨up (up I A_list L.length c.toInt32) MO 8 (nI (L.length + 1)), ?_, ?_, fun j hj => ?_, fun a ha hb => ?_, fun k hk => ?_⟩
  · unfold f_Mod_say
    rw [chk_i (by rw [h1]; exact nki hl (by decide)), hc]
    show some (up (up I A_list L.length c.toInt32) MO 8 (up I A_list L.length c.toInt32 MO 8 + 1)) = _
    rw [up_ne (Or.inl (by decide)), h1]
    rw [show nI L.length + 1 = nI (L.length + 1) from nI_add _ 1]
  · rw [up_self, List.length_append]
    rfl
  · rw [up_row (by decide), getD_app]
    by_cases e : j < L.length
    · rw [if_pos e, up_ne (Or.inr (by omega))]
      exact h2 j e
    · have e2 : j = L.length := by
        rw [List.length_append] at hj
        have : ([c.toInt32] : List Int32).length = 1 := rfl
        omega
      rw [if_neg e, e2, up_self, Nat.sub_self]
      rfl
  · rw [up_row ha, up_row hb]
    exact h3 a ha hb
  · rw [up_ne (Or.inr hk), up_row (by decide)]
    exact h4 k hk
def lt96 (ws : List Nat) : List Int32 := ws.map (fun c => nI (96 + c))
theorem say_w {n : Nat} {J : JM} {I0 : IM} : ∀ (ws : List Nat) (f : Nat) (x : Int64) (I : IM) (L : List Int32), (∀ c ∈ ws, 1 ≤ c ∧ c ≤ 26) → x.toInt = (leN ws : Int) → ws.length < f → L.length + ws.length ≤ 100 → RSa I0 L I → ∃ I', l_Mod_sayWord_21 n J f x I = some I' ∧ RSa I0 (L ++ lt96 ws) I'
  | [], f + 1, x, I, L, _, hx, _, _, h => by
    refine ⟨I, ?_, by rw [show lt96 [] = [] from rfl, List.append_nil]; exact h⟩
    rw [l_Mod_sayWord_21, if_pos ((lgp hx).1.mpr rfl)]
  | c :: ws, f + 1, x, I, L, hw, hx, hf, hl, h => by
    have hc := hw c List.mem_cons_self
    have hx' : x.toInt = ((c + 32 * leN ws : Nat) : Int) := hx
    obtain ⟨d1, d2⟩ := i64d (by omega) hx'
    have hlen : (c :: ws).length = ws.length + 1 := rfl
    obtain ⟨I1, e1, r1⟩ := say_1 (c := 96 + (x &&& 31)) h (by omega)
    have ec : (96 + (x &&& 31) : Int64).toInt32 = nI (96 + c) := by
      rw [Int64.toInt32_add, d1, ← nI_add]
      rfl
    rw [ec] at r1
    obtain ⟨I2, e2, r2⟩ := say_w ws f _ I1 (L ++ [nI (96 + c)]) (fun d hd => hw d (List.mem_cons_of_mem _ hd)) d2 (by omega) (by rw [List.length_append]; show L.length + 1 + ws.length ≤ 100; omega) r1
    refine ⟨I2, ?_, ?_⟩
    · rw [l_Mod_sayWord_21, if_neg (fun q => absurd ((lgp hx').1.mp q) (by omega)), e1]
      exact e2
    · rw [List.append_assoc] at r2
      exact r2
  | _, 0, _, _, _, _, _, hf, _, _ => absurd hf (Nat.not_lt_zero _)
/-- sayWord: a blank before it unless it is the first -/
theorem say_word {n w : Nat} {J : JM} {I0 I : IM} {L : List Int32} (hJ : JOK J) (hn : 100 ≤ n) (hw : w < 70) (h : RSa I0 L I) (hl : L.length + 1 + (rLs.getD w []).length ≤ 90) : ∃ I', f_Mod_sayWord n J (nI w) I = some I' ∧ RSa I0 (L ++ ((if L = [] then [] else [nI 32]) ++ lt96 (rLs.getD w []))) I' := by
  have jw : (J A_words w).toInt = leN (rLs.getD w []) := by rw [rl_le w hw]; exact congrArg Int64.toInt (hJ.2 w hw)
  have body : ∀ (I1 : IM) (L1 : List Int32), RSa I0 L1 I1 → L1.length ≤ L.length + 1 → ∃ I', b_Mod_sayWord_14 n J (nI w) I1 = some I' ∧ RSa I0 (L1 ++ lt96 (rLs.getD w [])) I' := fun I1 L1 h1 hl1 => by
    obtain ⟨I2, e2, r2⟩ := say_w (n := n) (J := J) (rLs.getD w []) n (J A_words w) I1 L1 (rl_ok w hw) jw (by omega) (by omega) h1
    refine ⟨I2, ?_, r2⟩
    unfold b_Mod_sayWord_14
    rw [chk_i (nki hw (by decide)), nkc (by omega)]
    exact e2
  unfold f_Mod_sayWord
  by_cases z : L = []
  · subst z
    obtain ⟨I2, e2, r2⟩ := body I [] h (Nat.zero_le _)
    refine ⟨I2, ?_, ?_⟩
    · rw [if_pos (by rw [h.1]; decide)]
      exact e2
    · rw [if_pos rfl]
      exact r2
  · have hp : 1 ≤ L.length := by
      cases L with
      | nil => exact absurd rfl z
      | cons a b => exact Nat.le_add_left _ _
    obtain ⟨I1, e1, r1⟩ := say_1 (c := 32) h (by omega)
    obtain ⟨I2, e2, r2⟩ := body I1 (L ++ [nI 32]) r1 (by rw [List.length_append]; exact Nat.le_refl _)
    refine ⟨I2, ?_, ?_⟩
    · rw [if_neg (by rw [h.1]; exact fun q => absurd ((nI_leI (a := L.length) (b := 0) (by omega) (by decide)).mp q) (by omega)), e1]
      exact e2
    · rw [if_neg z, ← List.append_assoc]
      exact r2
