/-! the line's own numbers: what no call but listing touches -/
def LN (I : IM) : Prop := I 55 1 = 0 ∧ 0 ≤ (I 55 3).toInt ∧ ∀ k, fits .byte (.int (I 56 k)) = true
theorem LN_c {I I' : IM} (e : ∀ b, (b = 55 ∨ b = 56) → I' b = I b) (h : LN I) : LN I' := by
  unfold LN at h ⊢
  rw [e 55 (Or.inl rfl), e 56 (Or.inr rfl)]; exact h
def RlL (Rl : RelT) : RelT := fun t rl hd ot pt it I => Rl t rl hd ot pt it I ∧ LN I
theorem fr_Eng_policy {n hd ot pt : Nat} {J : JM} {I : IM} {r : Int32 × IM} (p2 : isMch hd) (p3 : isMch ot) (p4 : isPol pt) (h : f_Eng_policy n hd ot pt J I = some r) {b : Nat} (hb : b = 55 ∨ b = 56) : r.2 b = I b := by
  rw [f_Eng_policy] at h
  obtain ⟨v, e, h⟩ := bnd_e h
  have e0 : v.2 b = I b := fr_Prd_read e (by omega) (by omega) (by omega)
  by_cases z : v.1 = -1
  · rw [if_pos z, fg_f, Option.bind_some, fg_f, Option.bind_some] at h
    cases h
    show fgI (fgI v.2 hd) ot b = I b
    rw [fg_o (by omega) (by omega), fg_o (by omega) (by omega), e0]
  · rw [if_neg z] at h
    cases h
    exact e0
theorem ml_put {Rl : RelT} (h : Ma_put Rl) : Ma_put (RlL Rl) := by
  intro a0 t ht rl hd ot pt it J I p1 p2 p3 p4 p5 hJ hR
  obtain ⟨hR, hL⟩ := hR
  rcases h a0 t ht rl hd ot pt it J I p1 p2 p3 p4 p5 hJ hR with ⟨n, r, I1, I2, e0, e1, e2, e3⟩ | ⟨n, r, I2, e0, e1, e2, e3⟩ | ⟨n, r, I2, e0, e1, e2, e3⟩
  · have ln : ∀ b, (b = 55 ∨ b = 56) → I2 b = I b := fun b hb => (fr_Mod_put e1 (by omega)).trans (fr_Eng_put e0 (by omega))
    exact Or.inl ⟨n, r, I1, I2, e0, e1, e2, ⟨e3, LN_c ln hL⟩⟩
  · have ln : ∀ b, (b = 55 ∨ b = 56) → I2 b = I b := fun b hb => fr_Mod_put e1 (by omega)
    exact Or.inr (Or.inl ⟨n, r, I2, e0, e1, e2, ⟨e3, LN_c ln hL⟩⟩)
  · have ln : ∀ b, (b = 55 ∨ b = 56) → I2 b = I b := fun b hb => fr_Mod_put e1 (by omega)
    exact Or.inr (Or.inr (⟨n, r, I2, e0, e1, e2, ⟨e3, LN_c ln hL⟩⟩))
theorem ml_end {Rl : RelT} (h : Ma_end Rl) : Ma_end (RlL Rl) := by
  intro a0 t ht rl hd ot pt it J I p1 p2 p3 p4 p5 hJ hR
  obtain ⟨hR, hL⟩ := hR
  rcases h a0 t ht rl hd ot pt it J I p1 p2 p3 p4 p5 hJ hR with ⟨n, I1, I2, e0, e1, e2, e3⟩ | ⟨n, I2, e0, e1, e2, e3⟩
  · have ln : ∀ b, (b = 55 ∨ b = 56) → I2 b = I b := fun b hb => (fr_Mod_end e1 (by omega)).trans (fr_Eng_end e0 (by omega))
    exact Or.inl ⟨n, I1, I2, e0, e1, e2, ⟨e3, LN_c ln hL⟩⟩
  · have ln : ∀ b, (b = 55 ∨ b = 56) → I2 b = I b := fun b hb => fr_Mod_end e1 (by omega)
    exact Or.inr (⟨n, I2, e0, e1, e2, ⟨e3, LN_c ln hL⟩⟩)
theorem ml_policy {Rl : RelT} (h : Ma_policy Rl) : Ma_policy (RlL Rl) := by
  intro  t ht rl hd ot pt it J I p1 p2 p3 p4 p5 hJ hR
  obtain ⟨hR, hL⟩ := hR
  rcases h  t ht rl hd ot pt it J I p1 p2 p3 p4 p5 hJ hR with ⟨n, r, I1, I2, e0, e1, e2, e3⟩
  · have ln : ∀ b, (b = 55 ∨ b = 56) → I2 b = I b := fun b hb => (fr_Mod_policy e1 (by omega)).trans (fr_Eng_policy p2 p3 p4 e0 hb)
    exact ⟨n, r, I1, I2, e0, e1, fun y => ⟨e2 y, LN_c ln hL⟩, fun y => ⟨e3 y, LN_c ln hL⟩⟩
theorem ml_image {Rl : RelT} (h : Ma_image Rl) : Ma_image (RlL Rl) := by
  intro  t ht rl hd ot pt it J I p1 p2 p3 p4 p5 hJ hR
  obtain ⟨hR, hL⟩ := hR
  rcases h  t ht rl hd ot pt it J I p1 p2 p3 p4 p5 hJ hR with ⟨n, r, I1, I2, e0, e1, e2, e3⟩
  · have ln : ∀ b, (b = 55 ∨ b = 56) → I2 b = I b := fun b hb => (fr_Mod_image e1 (by omega)).trans (fr_Img_read e0 (by omega) (by omega) (by omega))
    exact ⟨n, r, I1, I2, e0, e1, fun y => ⟨e2 y, LN_c ln hL⟩, fun y => ⟨e3 y, LN_c ln hL⟩⟩
theorem ml_codeOf {Rl : RelT} (h : Ma_codeOf Rl) : Ma_codeOf (RlL Rl) := by
  intro a0 a1 t ht rl hd ot pt it J I p1 p2 p3 p4 p5 hJ hR
  obtain ⟨hR, hL⟩ := hR
  rcases h a0 a1 t ht rl hd ot pt it J I p1 p2 p3 p4 p5 hJ hR with ⟨n, r, I2, e0, e1, e2, e3⟩ | ⟨n, r, I2, e0, e1, e2, e3⟩ | ⟨n, r, I2, e0, e1, e2, e3⟩
  · have ln : ∀ b, (b = 55 ∨ b = 56) → I2 b = I b := fun b hb => fr_Mod_codeOf e1 (by omega)
    exact Or.inl ⟨n, r, I2, e0, e1, e2, ⟨e3, LN_c ln hL⟩⟩
  · have ln : ∀ b, (b = 55 ∨ b = 56) → I2 b = I b := fun b hb => fr_Mod_codeOf e1 (by omega)
    exact Or.inr (Or.inl ⟨n, r, I2, e0, e1, e2, ⟨e3, LN_c ln hL⟩⟩)
  · have ln : ∀ b, (b = 55 ∨ b = 56) → I2 b = I b := fun b hb => fr_Mod_codeOf e1 (by omega)
    exact Or.inr (Or.inr (⟨n, r, I2, e0, e1, e2, ⟨e3, LN_c ln hL⟩⟩))
theorem ml_begin {Rl : RelT} (h : Ma_begin Rl) : Ma_begin (RlL Rl) := by
  intro a0 t ht rl hd ot pt it J I p1 p2 p3 p4 p5 hJ hR
  obtain ⟨hR, hL⟩ := hR
  rcases h a0 t ht rl hd ot pt it J I p1 p2 p3 p4 p5 hJ hR with ⟨n, I1, I2, e0, e1, e2⟩
  · have ln : ∀ b, (b = 55 ∨ b = 56) → I2 b = I b := fun b hb => (fr_Mod_begin e1 (by omega)).trans (fr_Eng_begin e0 (by omega))
    exact ⟨n, I1, I2, e0, e1, ⟨e2, LN_c ln hL⟩⟩
theorem ml_code {Rl : RelT} (h : Ma_code Rl) : Ma_code (RlL Rl) := by
  intro a0 a1 a2 t ht rl hd ot pt it J I p1 p2 p3 p4 p5 hJ hR
  obtain ⟨hR, hL⟩ := hR
  rcases h a0 a1 a2 t ht rl hd ot pt it J I p1 p2 p3 p4 p5 hJ hR with ⟨n, I1, I2, e0, e1, e2, e3⟩ | ⟨n, I2, e0, e1, e2, e3⟩
  · have ln : ∀ b, (b = 55 ∨ b = 56) → I2 b = I b := fun b hb => (fr_Mod_code e1 (by omega)).trans (fr_Eng_code e0 (by omega))
    exact Or.inl ⟨n, I1, I2, e0, e1, e2, ⟨e3, LN_c ln hL⟩⟩
  · have ln : ∀ b, (b = 55 ∨ b = 56) → I2 b = I b := fun b hb => fr_Mod_code e1 (by omega)
    exact Or.inr (⟨n, I2, e0, e1, e2, ⟨e3, LN_c ln hL⟩⟩)
theorem ml_word {Rl : RelT} (h : Ma_word Rl) : Ma_word (RlL Rl) := by
  intro a0 a1 a2 a3 t ht rl hd ot pt it J I p1 p2 p3 p4 p5 hJ hR
  obtain ⟨hR, hL⟩ := hR
  rcases h a0 a1 a2 a3 t ht rl hd ot pt it J I p1 p2 p3 p4 p5 hJ hR with ⟨n, I1, I2, e0, e1, e2, e3⟩ | ⟨n, I2, e0, e1, e2, e3⟩
  · have ln : ∀ b, (b = 55 ∨ b = 56) → I2 b = I b := fun b hb => (fr_Mod_word e1 (by omega)).trans (fr_Eng_word e0 (by omega))
    exact Or.inl ⟨n, I1, I2, e0, e1, e2, ⟨e3, LN_c ln hL⟩⟩
  · have ln : ∀ b, (b = 55 ∨ b = 56) → I2 b = I b := fun b hb => fr_Mod_word e1 (by omega)
    exact Or.inr (⟨n, I2, e0, e1, e2, ⟨e3, LN_c ln hL⟩⟩)
theorem ml_register {Rl : RelT} (h : Ma_register Rl) : Ma_register (RlL Rl) := by
  intro a0 a1 a2 t ht rl hd ot pt it J I p1 p2 p3 p4 p5 hJ hR
  obtain ⟨hR, hL⟩ := hR
  rcases h a0 a1 a2 t ht rl hd ot pt it J I p1 p2 p3 p4 p5 hJ hR with ⟨n, I1, I2, e0, e1, e2, e3⟩ | ⟨n, I2, e0, e1, e2, e3⟩
  · have ln : ∀ b, (b = 55 ∨ b = 56) → I2 b = I b := fun b hb => (fr_Mod_register e1 (by omega)).trans (fr_Eng_register e0 (by omega))
    exact Or.inl ⟨n, I1, I2, e0, e1, e2, ⟨e3, LN_c ln hL⟩⟩
  · have ln : ∀ b, (b = 55 ∨ b = 56) → I2 b = I b := fun b hb => fr_Mod_register e1 (by omega)
    exact Or.inr (⟨n, I2, e0, e1, e2, ⟨e3, LN_c ln hL⟩⟩)
theorem ml_input {Rl : RelT} (h : Ma_input Rl) : Ma_input (RlL Rl) := by
  intro a0 a1 t ht rl hd ot pt it J I p1 p2 p3 p4 p5 hJ hR
  obtain ⟨hR, hL⟩ := hR
  rcases h a0 a1 t ht rl hd ot pt it J I p1 p2 p3 p4 p5 hJ hR with ⟨n, r, I1, I2, e0, e1, e2, e3⟩ | ⟨n, r, I2, e0, e1, e2, e3⟩
  · have ln : ∀ b, (b = 55 ∨ b = 56) → I2 b = I b := fun b hb => (fr_Mod_input e1 (by omega)).trans (fr_Eng_input e0 (by omega))
    exact Or.inl ⟨n, r, I1, I2, e0, e1, e2, ⟨e3, LN_c ln hL⟩⟩
  · have ln : ∀ b, (b = 55 ∨ b = 56) → I2 b = I b := fun b hb => fr_Mod_input e1 (by omega)
    exact Or.inr (⟨n, r, I2, e0, e1, e2, ⟨e3, LN_c ln hL⟩⟩)
theorem ml_run {Rl : RelT} (h : Ma_run Rl) : Ma_run (RlL Rl) := by
  intro a0 t ht rl hd ot pt it J I p1 p2 p3 p4 p5 hJ hR
  obtain ⟨hR, hL⟩ := hR
  rcases h a0 t ht rl hd ot pt it J I p1 p2 p3 p4 p5 hJ hR with ⟨n, r, I1, I2, e0, e1, e2, e3⟩ | ⟨n, r, I2, e0, e1, e2, e3⟩ | ⟨n, r, I2, e0, e1, e2, e3⟩
  · have ln : ∀ b, (b = 55 ∨ b = 56) → I2 b = I b := fun b hb => (fr_Mod_run e1 (by omega)).trans (fr_Eng_run e0 (by omega) (by omega) (by omega) (by omega))
    exact Or.inl ⟨n, r, I1, I2, e0, e1, e2, ⟨e3, LN_c ln hL⟩⟩
  · have ln : ∀ b, (b = 55 ∨ b = 56) → I2 b = I b := fun b hb => fr_Mod_run e1 (by omega)
    exact Or.inr (Or.inl ⟨n, r, I2, e0, e1, e2, ⟨e3, LN_c ln hL⟩⟩)
  · have ln : ∀ b, (b = 55 ∨ b = 56) → I2 b = I b := fun b hb => fr_Mod_run e1 (by omega)
    exact Or.inr (Or.inr (⟨n, r, I2, e0, e1, e2, ⟨e3, LN_c ln hL⟩⟩))
theorem ml_state {Rl : RelT} (h : Ma_state Rl) : Ma_state (RlL Rl) := by
  intro a0 t ht rl hd ot pt it J I p1 p2 p3 p4 p5 hJ hR
  obtain ⟨hR, hL⟩ := hR
  rcases h a0 t ht rl hd ot pt it J I p1 p2 p3 p4 p5 hJ hR with ⟨n, r, I2, e0, e1, e2, e3⟩ | ⟨n, r, I2, e0, e1, e2, e3⟩
  · have ln : ∀ b, (b = 55 ∨ b = 56) → I2 b = I b := fun b hb => fr_Mod_state e1 (by omega)
    exact Or.inl ⟨n, r, I2, e0, e1, e2, ⟨e3, LN_c ln hL⟩⟩
  · have ln : ∀ b, (b = 55 ∨ b = 56) → I2 b = I b := fun b hb => fr_Mod_state e1 (by omega)
    exact Or.inr (⟨n, r, I2, e0, e1, e2, ⟨e3, LN_c ln hL⟩⟩)
theorem ml_registerOf {Rl : RelT} (h : Ma_registerOf Rl) : Ma_registerOf (RlL Rl) := by
  intro a0 a1 t ht rl hd ot pt it J I p1 p2 p3 p4 p5 hJ hR
  obtain ⟨hR, hL⟩ := hR
  rcases h a0 a1 t ht rl hd ot pt it J I p1 p2 p3 p4 p5 hJ hR with ⟨n, r, I2, e0, e1, e2, e3⟩ | ⟨n, r, I2, e0, e1, e2, e3⟩ | ⟨n, r, I2, e0, e1, e2, e3⟩
  · have ln : ∀ b, (b = 55 ∨ b = 56) → I2 b = I b := fun b hb => fr_Mod_registerOf e1 (by omega)
    exact Or.inl ⟨n, r, I2, e0, e1, e2, ⟨e3, LN_c ln hL⟩⟩
  · have ln : ∀ b, (b = 55 ∨ b = 56) → I2 b = I b := fun b hb => fr_Mod_registerOf e1 (by omega)
    exact Or.inr (Or.inl ⟨n, r, I2, e0, e1, e2, ⟨e3, LN_c ln hL⟩⟩)
  · have ln : ∀ b, (b = 55 ∨ b = 56) → I2 b = I b := fun b hb => fr_Mod_registerOf e1 (by omega)
    exact Or.inr (Or.inr (⟨n, r, I2, e0, e1, e2, ⟨e3, LN_c ln hL⟩⟩))
theorem ml_wordOf {Rl : RelT} (h : Ma_wordOf Rl) : Ma_wordOf (RlL Rl) := by
  intro a0 a1 t ht rl hd ot pt it J I p1 p2 p3 p4 p5 hJ hR
  obtain ⟨hR, hL⟩ := hR
  rcases h a0 a1 t ht rl hd ot pt it J I p1 p2 p3 p4 p5 hJ hR with ⟨n, r, I2, e0, e1, e2, e3⟩ | ⟨n, r, I2, e0, e1, e2, e3⟩ | ⟨n, r, I2, e0, e1, e2, e3⟩
  · have ln : ∀ b, (b = 55 ∨ b = 56) → I2 b = I b := fun b hb => fr_Mod_wordOf e1 (by omega)
    exact Or.inl ⟨n, r, I2, e0, e1, e2, ⟨e3, LN_c ln hL⟩⟩
  · have ln : ∀ b, (b = 55 ∨ b = 56) → I2 b = I b := fun b hb => fr_Mod_wordOf e1 (by omega)
    exact Or.inr (Or.inl ⟨n, r, I2, e0, e1, e2, ⟨e3, LN_c ln hL⟩⟩)
  · have ln : ∀ b, (b = 55 ∨ b = 56) → I2 b = I b := fun b hb => fr_Mod_wordOf e1 (by omega)
    exact Or.inr (Or.inr (⟨n, r, I2, e0, e1, e2, ⟨e3, LN_c ln hL⟩⟩))
theorem ml_output {Rl : RelT} (h : Ma_output Rl) : Ma_output (RlL Rl) := by
  intro a0 t ht rl hd ot pt it J I p1 p2 p3 p4 p5 hJ hR
  obtain ⟨hR, hL⟩ := hR
  rcases h a0 t ht rl hd ot pt it J I p1 p2 p3 p4 p5 hJ hR with ⟨n, r, I2, e0, e1, e2, e3⟩ | ⟨n, r, I2, e0, e1, e2, e3⟩
  · have ln : ∀ b, (b = 55 ∨ b = 56) → I2 b = I b := fun b hb => fr_Mod_output e1 (by omega)
    exact Or.inl ⟨n, r, I2, e0, e1, e2, ⟨e3, LN_c ln hL⟩⟩
  · have ln : ∀ b, (b = 55 ∨ b = 56) → I2 b = I b := fun b hb => fr_Mod_output e1 (by omega)
    exact Or.inr (⟨n, r, I2, e0, e1, e2, ⟨e3, LN_c ln hL⟩⟩)
theorem ml_pairOf {Rl : RelT} (h : Ma_pairOf Rl) : Ma_pairOf (RlL Rl) := by
  intro a0 a1 t ht rl hd ot pt it J I p1 p2 p3 p4 p5 hJ hR
  obtain ⟨hR, hL⟩ := hR
  rcases h a0 a1 t ht rl hd ot pt it J I p1 p2 p3 p4 p5 hJ hR with ⟨n, r, I2, e0, e1, e2, e3⟩ | ⟨n, r, I2, e0, e1, e2, e3⟩ | ⟨n, r, I2, e0, e1, e2, e3⟩
  · have ln : ∀ b, (b = 55 ∨ b = 56) → I2 b = I b := fun b hb => fr_Mod_pairOf e1 (by omega)
    exact Or.inl ⟨n, r, I2, e0, e1, e2, ⟨e3, LN_c ln hL⟩⟩
  · have ln : ∀ b, (b = 55 ∨ b = 56) → I2 b = I b := fun b hb => fr_Mod_pairOf e1 (by omega)
    exact Or.inr (Or.inl ⟨n, r, I2, e0, e1, e2, ⟨e3, LN_c ln hL⟩⟩)
  · have ln : ∀ b, (b = 55 ∨ b = 56) → I2 b = I b := fun b hb => fr_Mod_pairOf e1 (by omega)
    exact Or.inr (Or.inr (⟨n, r, I2, e0, e1, e2, ⟨e3, LN_c ln hL⟩⟩))
theorem ml_names {Rl : RelT} (h : Ma_names Rl) : Ma_names (RlL Rl) := by
  intro a0 t ht rl hd ot pt it J I p1 p2 p3 p4 p5 hJ hR
  obtain ⟨hR, hL⟩ := hR
  rcases h a0 t ht rl hd ot pt it J I p1 p2 p3 p4 p5 hJ hR with ⟨n, r, I2, e0, e1, e2, e3⟩ | ⟨n, r, I2, e0, e1, e2, e3⟩
  · have ln : ∀ b, (b = 55 ∨ b = 56) → I2 b = I b := fun b hb => fr_Mod_names e1 (by omega)
    exact Or.inl ⟨n, r, I2, e0, e1, e2, ⟨e3, LN_c ln hL⟩⟩
  · have ln : ∀ b, (b = 55 ∨ b = 56) → I2 b = I b := fun b hb => fr_Mod_names e1 (by omega)
    exact Or.inr (⟨n, r, I2, e0, e1, e2, ⟨e3, LN_c ln hL⟩⟩)
theorem ml_blame {Rl : RelT} (h : Ma_blame Rl) : Ma_blame (RlL Rl) := by
  intro  t ht rl hd ot pt it J I p1 p2 p3 p4 p5 hJ hR
  obtain ⟨hR, hL⟩ := hR
  rcases h  t ht rl hd ot pt it J I p1 p2 p3 p4 p5 hJ hR with ⟨n, r, I2, e0, e1, e2⟩
  · have ln : ∀ b, (b = 55 ∨ b = 56) → I2 b = I b := fun b hb => fr_Mod_blame e1 (by omega)
    exact ⟨n, r, I2, e0, e1, ⟨e2, LN_c ln hL⟩⟩
theorem ml_journal {Rl : RelT} (h : Ma_journal Rl) : Ma_journal (RlL Rl) := by
  intro a0 a1 t ht rl hd ot pt it J I p1 p2 p3 p4 p5 hJ hR
  obtain ⟨hR, hL⟩ := hR
  rcases h a0 a1 t ht rl hd ot pt it J I p1 p2 p3 p4 p5 hJ hR with ⟨n, r, I2, e0, e1, e2, e3⟩ | ⟨n, r, I2, e0, e1, e2, e3⟩ | ⟨n, r, I2, e0, e1, e2, e3⟩
  · have ln : ∀ b, (b = 55 ∨ b = 56) → I2 b = I b := fun b hb => fr_Mod_journal e1 (by omega)
    exact Or.inl ⟨n, r, I2, e0, e1, e2, ⟨e3, LN_c ln hL⟩⟩
  · have ln : ∀ b, (b = 55 ∨ b = 56) → I2 b = I b := fun b hb => fr_Mod_journal e1 (by omega)
    exact Or.inr (Or.inl ⟨n, r, I2, e0, e1, e2, ⟨e3, LN_c ln hL⟩⟩)
  · have ln : ∀ b, (b = 55 ∨ b = 56) → I2 b = I b := fun b hb => fr_Mod_journal e1 (by omega)
    exact Or.inr (Or.inr (⟨n, r, I2, e0, e1, e2, ⟨e3, LN_c ln hL⟩⟩))
theorem ml_count {Rl : RelT} (h : Ma_count Rl) : Ma_count (RlL Rl) := by
  intro a0 a1 t ht rl hd ot pt it J I p1 p2 p3 p4 p5 hJ hR
  obtain ⟨hR, hL⟩ := hR
  rcases h a0 a1 t ht rl hd ot pt it J I p1 p2 p3 p4 p5 hJ hR with ⟨n, r, I2, e0, e1, e2, e3⟩ | ⟨n, r, I2, e0, e1, e2, e3⟩
  · have ln : ∀ b, (b = 55 ∨ b = 56) → I2 b = I b := fun b hb => fr_Mod_count e1 (by omega)
    exact Or.inl ⟨n, r, I2, e0, e1, e2, ⟨e3, LN_c ln hL⟩⟩
  · have ln : ∀ b, (b = 55 ∨ b = 56) → I2 b = I b := fun b hb => fr_Mod_count e1 (by omega)
    exact Or.inr (⟨n, r, I2, e0, e1, e2, ⟨e3, LN_c ln hL⟩⟩)
theorem ml_cacheOf {Rl : RelT} (h : Ma_cacheOf Rl) : Ma_cacheOf (RlL Rl) := by
  intro a0 a1 t ht rl hd ot pt it J I p1 p2 p3 p4 p5 hJ hR
  obtain ⟨hR, hL⟩ := hR
  rcases h a0 a1 t ht rl hd ot pt it J I p1 p2 p3 p4 p5 hJ hR with ⟨n, r, I2, e0, e1, e2, e3⟩ | ⟨n, r, I2, e0, e1, e2, e3⟩ | ⟨n, r, I2, e0, e1, e2, e3⟩
  · have ln : ∀ b, (b = 55 ∨ b = 56) → I2 b = I b := fun b hb => fr_Mod_cacheOf e1 (by omega)
    exact Or.inl ⟨n, r, I2, e0, e1, e2, ⟨e3, LN_c ln hL⟩⟩
  · have ln : ∀ b, (b = 55 ∨ b = 56) → I2 b = I b := fun b hb => fr_Mod_cacheOf e1 (by omega)
    exact Or.inr (Or.inl ⟨n, r, I2, e0, e1, e2, ⟨e3, LN_c ln hL⟩⟩)
  · have ln : ∀ b, (b = 55 ∨ b = 56) → I2 b = I b := fun b hb => fr_Mod_cacheOf e1 (by omega)
    exact Or.inr (Or.inr (⟨n, r, I2, e0, e1, e2, ⟨e3, LN_c ln hL⟩⟩))
theorem ml_keep {Rl : RelT} (h : Ma_keep Rl) : Ma_keep (RlL Rl) := by
  intro  t ht rl hd ot pt it J I p1 p2 p3 p4 p5 hJ hR
  obtain ⟨hR, hL⟩ := hR
  rcases h  t ht rl hd ot pt it J I p1 p2 p3 p4 p5 hJ hR with ⟨n, I1, I2, e0, e1, e2⟩
  · have ln : ∀ b, (b = 55 ∨ b = 56) → I2 b = I b := fun b hb => (fr_Mod_keep e1 (by omega)).trans (fr_Eng_keep e0 (by omega))
    exact ⟨n, I1, I2, e0, e1, ⟨e2, LN_c ln hL⟩⟩
theorem ml_differ {Rl : RelT} (h : Ma_differ Rl) : Ma_differ (RlL Rl) := by
  intro a0 a1 t ht rl hd ot pt it J I p1 p2 p3 p4 p5 hJ hR
  obtain ⟨hR, hL⟩ := hR
  rcases h a0 a1 t ht rl hd ot pt it J I p1 p2 p3 p4 p5 hJ hR with ⟨n, r, I1, I2, e0, e1, e2, e3⟩ | ⟨n, r, I2, e0, e1, e2, e3⟩ | ⟨n, r, I2, e0, e1, e2, e3⟩ | ⟨n, r, I2, e0, e1, e2, e3⟩
  · have ln : ∀ b, (b = 55 ∨ b = 56) → I2 b = I b := fun b hb => (fr_Mod_differ e1 (by omega)).trans (fr_Eng_differ e0 (by omega) (by omega) (by omega) (by omega) (by omega))
    exact Or.inl ⟨n, r, I1, I2, e0, e1, e2, ⟨e3, LN_c ln hL⟩⟩
  · have ln : ∀ b, (b = 55 ∨ b = 56) → I2 b = I b := fun b hb => fr_Mod_differ e1 (by omega)
    exact Or.inr (Or.inl ⟨n, r, I2, e0, e1, e2, ⟨e3, LN_c ln hL⟩⟩)
  · have ln : ∀ b, (b = 55 ∨ b = 56) → I2 b = I b := fun b hb => fr_Mod_differ e1 (by omega)
    exact Or.inr (Or.inr (Or.inl ⟨n, r, I2, e0, e1, e2, ⟨e3, LN_c ln hL⟩⟩))
  · have ln : ∀ b, (b = 55 ∨ b = 56) → I2 b = I b := fun b hb => fr_Mod_differ e1 (by omega)
    exact Or.inr (Or.inr (Or.inr (⟨n, r, I2, e0, e1, e2, ⟨e3, LN_c ln hL⟩⟩)))
theorem ml_witness {Rl : RelT} (h : Ma_witness Rl) : Ma_witness (RlL Rl) := by
  intro a0 t ht rl hd ot pt it J I p1 p2 p3 p4 p5 hJ hR
  obtain ⟨hR, hL⟩ := hR
  rcases h a0 t ht rl hd ot pt it J I p1 p2 p3 p4 p5 hJ hR with ⟨n, r, I2, e0, e1, e2, e3⟩ | ⟨n, r, I2, e0, e1, e2, e3⟩ | ⟨n, r, I2, e0, e1, e2, e3⟩
  · have ln : ∀ b, (b = 55 ∨ b = 56) → I2 b = I b := fun b hb => fr_Mod_witness e1 (by omega)
    exact Or.inl ⟨n, r, I2, e0, e1, e2, ⟨e3, LN_c ln hL⟩⟩
  · have ln : ∀ b, (b = 55 ∨ b = 56) → I2 b = I b := fun b hb => fr_Mod_witness e1 (by omega)
    exact Or.inr (Or.inl ⟨n, r, I2, e0, e1, e2, ⟨e3, LN_c ln hL⟩⟩)
  · have ln : ∀ b, (b = 55 ∨ b = 56) → I2 b = I b := fun b hb => fr_Mod_witness e1 (by omega)
    exact Or.inr (Or.inr (⟨n, r, I2, e0, e1, e2, ⟨e3, LN_c ln hL⟩⟩))
theorem ml_twin {Rl : RelT} (h : Ma_twin Rl) : Ma_twin (RlL Rl) := by
  intro  t ht rl hd ot pt it J I p1 p2 p3 p4 p5 hJ hR
  obtain ⟨hR, hL⟩ := hR
  rcases h  t ht rl hd ot pt it J I p1 p2 p3 p4 p5 hJ hR with ⟨n, I1, I2, e0, e1, e2⟩
  · have ln : ∀ b, (b = 55 ∨ b = 56) → I2 b = I b := fun b hb => (fr_Mod_twin e1 (by omega)).trans (fr_Eng_twin e0 (by omega))
    exact ⟨n, I1, I2, e0, e1, ⟨e2, LN_c ln hL⟩⟩
theorem ml_swap {Rl : RelT} (h : Ma_swap Rl) : Ma_swap (RlL Rl) := by
  intro  t ht rl hd ot pt it J I p1 p2 p3 p4 p5 hJ hR
  obtain ⟨hR, hL⟩ := hR
  rcases h  t ht rl hd ot pt it J I p1 p2 p3 p4 p5 hJ hR with ⟨n, I2, e0, e1⟩
  · have ln : ∀ b, (b = 55 ∨ b = 56) → I2 b = I b := fun b hb => fr_Mod_swap e0 (by omega)
    exact ⟨n, I2, e0, ⟨e1, LN_c ln hL⟩⟩
theorem ml_unlike {Rl : RelT} (h : Ma_unlike Rl) : Ma_unlike (RlL Rl) := by
  intro a0 t ht rl hd ot pt it J I p1 p2 p3 p4 p5 hJ hR
  obtain ⟨hR, hL⟩ := hR
  rcases h a0 t ht rl hd ot pt it J I p1 p2 p3 p4 p5 hJ hR with ⟨n, r, I2, e0, e1, e2, e3⟩ | ⟨n, r, I2, e0, e1, e2, e3⟩
  · have ln : ∀ b, (b = 55 ∨ b = 56) → I2 b = I b := fun b hb => fr_Mod_unlike e1 (by omega)
    exact Or.inl ⟨n, r, I2, e0, e1, e2, ⟨e3, LN_c ln hL⟩⟩
  · have ln : ∀ b, (b = 55 ∨ b = 56) → I2 b = I b := fun b hb => fr_Mod_unlike e1 (by omega)
    exact Or.inr (⟨n, r, I2, e0, e1, e2, ⟨e3, LN_c ln hL⟩⟩)
theorem ml_all {Rl : RelT} (h : MaAll Rl) : MaAll (RlL Rl) := by
  obtain ⟨h0, h1, h2, h3, h4, h5, h6, h7, h8, h9, h10, h11, h12, h13, h14, h15, h16, h17, h18, h19, h20, h21, h22, h23, h24, h25, h26⟩ := h
  exact ⟨ml_put h0, ml_end h1, ml_policy h2, ml_image h3, ml_codeOf h4, ml_begin h5, ml_code h6, ml_word h7, ml_register h8, ml_input h9, ml_run h10, ml_state h11, ml_registerOf h12, ml_wordOf h13, ml_output h14, ml_pairOf h15, ml_names h16, ml_blame h17, ml_journal h18, ml_count h19, ml_cacheOf h20, ml_keep h21, ml_differ h22, ml_witness h23, ml_twin h24, ml_swap h25, ml_unlike h26⟩
