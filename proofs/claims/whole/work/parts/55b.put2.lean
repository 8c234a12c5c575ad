/-! put: the bytes appended -/
def apC (I : IM) (b : Int32) : IM := if b = 0 then I else up (up I 2 (I 1 0).toNatClampNeg b) 1 0 (I 1 0 + 1)
def apM (I : IM) (b : Int32) : IM := if b = 0 then I else up (up I A_signs (I MO 2).toNatClampNeg b) MO 2 (I MO 2 + 1)
theorem apC_o {I : IM} {v : Int32} {b : Nat} (h1 : b ≠ 1) (h2 : b ≠ 2) : apC I v b = I b := by
  unfold apC
  split
  · rfl
  · rw [fu h1, fu h2]
theorem apM_o {I : IM} {v : Int32} {b : Nat} (h1 : b ≠ 102) (h2 : b ≠ 103) : apM I v b = I b := by
  unfold apM
  split
  · rfl
  · rw [fu (by exact h1), fu (by exact h2)]
theorem apM_j {I : IM} {v : Int32} {j : Nat} (h : j ≠ 2) : apM I v MO j = I MO j := by
  unfold apM
  split
  · rfl
  · rw [up_ne (Or.inr h), fu (by decide)]
theorem ac_step {n f k : Nat} {x : Int32} {I : IM} (hk : k < 4) (h0 : 0 ≤ (I 1 0).toInt) (hl : bt x k = 0 ∨ (I 1 0).toInt < 900) : l_Eng_put_88 n (f + 1) x (nI (8 * k)) I = l_Eng_put_88 n f x (nI (8 * (k + 1))) (apC I (bt x k)) := by
  rw [l_Eng_put_88, if_neg (k32 k hk), k8 k hk]
  change Option.bind (f_Rdr_append (bt x k) I) (fun v9 => l_Eng_put_88 n f x (nI (8 * (k + 1))) v9) = _
  have ea : f_Rdr_append (bt x k) I = some (apC I (bt x k)) := by
    unfold f_Rdr_append apC
    by_cases q : bt x k = 0
    · rw [if_pos q, if_pos q]
      rfl
    · have hlt : (I 1 0).toInt < 900 := hl.resolve_left q
      have n0 : ¬ I 1 0 < 0 := by rw [ti]; simp only [Int32.reduceToInt]; omega
      have n9 : ¬ (900 : Int32) ≤ I 1 0 := by rw [tl]; simp only [Int32.reduceToInt]; omega
      obtain ⟨m, hm, em⟩ := bt_n x k
      rw [if_neg q, if_neg n0, if_neg n9, if_neg q, chk_i (inb_of n0 hlt)]
      simp only [lt, b_Rdr_append_44, up_o (show 1 ≠ 2 by decide)]
      rw [em, nI_char m hm]
  rw [ea]
  rfl
theorem am_step {n f k : Nat} {x : Int32} {I : IM} (hk : k < 4) (h0 : 0 ≤ (I MO 2).toInt) (hl : bt x k = 0 ∨ (I MO 2).toInt < 900) : l_Mod_put_117 n (f + 1) x (nI k) I = l_Mod_put_117 n f x (nI (k + 1)) (apM I (bt x k)) := by
  obtain ⟨m, hm, em⟩ := bt_n x k
  rw [l_Mod_put_117, if_neg (k4 k hk), km k hk]
  change (if bt x k ≤ 0 then b_Mod_put_162 n (l_Mod_put_117 n f) x (nI k) I else chk (inb (I MO 2) 900) <| lt (up I A_signs (I MO 2).toNatClampNeg (bt x k)) fun I18 => lt (up I18 MO 2 (I18 MO 2 + 1)) fun I19 => b_Mod_put_162 n (l_Mod_put_117 n f) x (nI k) I19) = _
  unfold apM
  by_cases q : bt x k = 0
  · rw [if_pos (by rw [em] at q ⊢; exact (nI_le0 m hm).mpr q), if_pos q, b_Mod_put_162, k1 k hk]
  · have hlt : (I MO 2).toInt < 900 := hl.resolve_left q
    have n0 : ¬ I MO 2 < 0 := by rw [ti]; simp only [Int32.reduceToInt]; omega
    rw [if_neg (by rw [em] at q ⊢; exact fun z => q ((nI_le0 m hm).mp z)), if_neg q, chk_i (inb_of n0 hlt)]
    simp only [lt, b_Mod_put_162, k1 k hk, up_o (show MO ≠ A_signs by decide)]
/-- text of the class in one state, of the reference in another -/
def QT (C M : IM) : Prop := C 1 0 = M MO 2 ∧ 0 ≤ (C 1 0).toInt ∧ (C 1 0).toInt ≤ 900 ∧ ∀ k : Nat, (k : Int) < (C 1 0).toInt → C 2 k = M A_signs k ∧ ((32 ≤ (C 2 k).toInt ∧ (C 2 k).toInt ≤ 126) ∨ C 2 k = 10)
def cn (b : Int32) : Nat := if b = 0 then 0 else 1
theorem apC_len {C : IM} {b : Int32} (h0 : 0 ≤ (C 1 0).toInt) (hl : (C 1 0).toInt + cn b ≤ 900) : (apC C b 1 0).toInt = (C 1 0).toInt + cn b := by
  unfold apC cn at *
  by_cases q : b = 0
  · simp [q]
  · rw [if_neg q] at hl ⊢
    rw [if_neg q, up_self, add1 (n := 901) h0 (by omega) (by decide)]
    rfl
theorem QT_ap {C M : IM} {b : Int32} (h : QT C M) (ho : okb b) (hl : (C 1 0).toInt + cn b ≤ 900) : QT (apC C b) (apM M b) := by
  obtain ⟨h1, h2, h3, h4⟩ := h
  have el := apC_len h2 hl
  by_cases q : b = 0
  · subst q
    exact ⟨h1, h2, h3, h4⟩
  · have ec : cn b = 1 := if_neg q
    rw [ec] at el hl
    have eC : apC C b = up (up C 2 (C 1 0).toNatClampNeg b) 1 0 (C 1 0 + 1) := if_neg q
    have eM : apM M b = up (up M A_signs (M MO 2).toNatClampNeg b) MO 2 (M MO 2 + 1) := if_neg q
    have nc := nat_c h2
    refine ⟨?_, by omega, by omega, fun k hk => ?_⟩
    · rw [eC, eM, up_self, up_self, h1]
    · rw [el] at hk
      have g1 : apC C b 2 k = if k = (C 1 0).toNatClampNeg then b else C 2 k := by
        rw [eC, up_o (by decide), up_s]
      have g2 : apM M b A_signs k = if k = (C 1 0).toNatClampNeg then b else M A_signs k := by
        rw [eM, up_o (by decide), up_s, h1]
      rw [g1, g2]
      by_cases e : k = (C 1 0).toNatClampNeg
      · rw [if_pos e, if_pos e]
        refine ⟨rfl, ?_⟩
        rcases ho with z | z | ⟨z1, z2⟩
        · exact absurd z q
        · exact Or.inr z
        · rw [ti] at z1 z2
          simp only [Int32.reduceToInt] at z1 z2
          exact Or.inl ⟨by omega, by omega⟩
      · rw [if_neg e, if_neg e]
        exact h4 k (by omega)
theorem cb_n {b : Int32} : (cb b).toInt = cn b := by
  unfold cb cn
  split <;> rfl
theorem sum4 {l b0 b1 b2 b3 : Int32} (h0 : 0 ≤ l.toInt) (h9 : l.toInt ≤ 900) : (l + (0 + cb b0 + cb b1 + cb b2 + cb b3)).toInt = l.toInt + (cn b0 + cn b1 + cn b2 + cn b3 : Nat) := by
  have k0 : cn b0 ≤ 1 := by unfold cn; split <;> omega
  have k1' : cn b1 ≤ 1 := by unfold cn; split <;> omega
  have k2 : cn b2 ≤ 1 := by unfold cn; split <;> omega
  have k3 : cn b3 ≤ 1 := by unfold cn; split <;> omega
  have e : ∀ (a b : Int32), 0 ≤ a.toInt → 0 ≤ b.toInt → a.toInt + b.toInt ≤ 100000 → (a + b).toInt = a.toInt + b.toInt := fun a b h1 h2 h3 => by
    simp only [Int32.toInt_add, Int.bmod_def]
    split <;> omega
  have z0 := cb_n (b := b0)
  have z1 := cb_n (b := b1)
  have z2 := cb_n (b := b2)
  have z3 := cb_n (b := b3)
  have y0 := e 0 (cb b0) (by decide) (by omega) (by simp only [Int32.reduceToInt]; omega)
  simp only [Int32.reduceToInt] at y0
  have y1 := e (0 + cb b0) (cb b1) (by omega) (by omega) (by omega)
  have y2 := e (0 + cb b0 + cb b1) (cb b2) (by omega) (by omega) (by omega)
  have y3 := e (0 + cb b0 + cb b1 + cb b2) (cb b3) (by omega) (by omega) (by omega)
  have y4 := e l (0 + cb b0 + cb b1 + cb b2 + cb b3) (by omega) (by omega) (by omega)
  omega
