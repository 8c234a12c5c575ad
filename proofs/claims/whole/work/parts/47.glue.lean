/-! the law out of facts about the functions: no machine any more behind this part -/
def knw : List Int64 := [263572, 119675684308, 442053, 1156, 675472278644, 469649113497, 1476, 498, 25074, 2273783, 402789, 408612, 20594245, 349616, 86030440, 239, 402891, 16052, 302, 427365, 150000, 427595, 515, 1, 2, 3, 705, 706, 707, 23, 15, 9, 14, 113797, 72564293, 3544114, 6887016, 525618, 6605428, 642891204, 67173, 464036, 20519, 464660, 16496818, 52, 769604, 624088961202, 9913012, 267652]
/-- what the longs hold: the class's packed words, the reference's -/
def JOK (J : JM) : Prop := (∀ k, k < 50 → J 6 k = knw.getD k 0) ∧ ∀ k, k < 70 → J 104 k = wdsL.getD k 0
abbrev RelT : Type := Nat → Nat → Nat → Nat → Nat → Nat → IM → Prop
def Sx (Δ : Dx) (Rl : RelT) (t : Nat) (σ : St) : Prop := ∃ rl hd ot pt it, EX Δ σ.2 rl hd ot pt it ∧ MX Δ σ.2 ∧ JOK σ.2.1 ∧ Rl t rl hd ot pt it σ.1
def outJ (J : JM) (x : Int64) : JM := upA J OUT (vp_updL (J OUT) 0 x)
theorem outJ_o {J : JM} {x : Int64} {a : Nat} (h : a ≠ OUT) : outJ J x a = J a := by
  unfold outJ upA
  rw [if_neg h]
theorem outJ_s {J : JM} {x : Int64} : outJ J x OUT 0 = x := by
  unfold outJ upA
  rw [if_pos rfl]
  rfl
theorem jok_out {J : JM} {x : Int64} (h : JOK J) : JOK (outJ J x) := by
  unfold JOK
  rw [outJ_o (by decide), outJ_o (by decide)]
  exact h
theorem mx_out {Δ : Dx} {X : Lx} {x : Int64} (h : MX Δ X) : MX Δ (outJ X.1 x, X.2) := by
  refine ⟨h.1, ?_⟩
  show ∀ k, k < 70 → outJ X.1 x A_words k = _
  rw [outJ_o (by decide)]
  exact h.2
theorem ex_out {Δ : Dx} {X : Lx} {J : JM} {rl hd ot pt it : Nat} (h : EX Δ X rl hd ot pt it) : EX Δ (J, X.2) rl hd ot pt it := h
theorem i64_id {x : Int32} : x.toInt64 = x.toInt64 := rfl
def Ma_put (Rl : RelT) : Prop := ∀ (a0 : Int32) (t : Nat) (_ : t < 512) (rl hd ot pt it : Nat) (J : JM) (I : IM), isPol rl → isMch hd → isMch ot → isPol pt → isMch it → JOK J → Rl t rl hd ot pt it I → (∃ (n : Nat) (r : Int32) (I1 : IM) (I2 : IM), f_Eng_put n a0 I = some (r, I1) ∧ f_Mod_put n a0 I1 = some (r, I2) ∧ I2 MO 0 = 0 ∧ Rl (t + 1) rl hd ot pt it I2) ∨ (∃ (n : Nat) (r : Int32) (I2 : IM), t_Eng_put n a0 I = some 1 ∧ f_Mod_put n a0 I = some (r, I2) ∧ I2 MO 0 = 1 ∧ Rl (t + 1) rl hd ot pt it I2) ∨ (∃ (n : Nat) (r : Int32) (I2 : IM), t_Eng_put n a0 I = some 2 ∧ f_Mod_put n a0 I = some (r, I2) ∧ I2 MO 0 = 2 ∧ Rl (t + 1) rl hd ot pt it I2)
set_option maxRecDepth 20000 in
theorem do_put {Δ : Dx} {Rl : RelT} (h : Ma_put Rl) : Do_put Δ (Sx Δ Rl) := by
  intro a0 t ht σ hS
  obtain ⟨I, X⟩ := σ
  obtain ⟨rl, hd, ot, pt, it, hX, hM, hJ, hR⟩ := hS
  rcases h a0 t ht rl hd ot pt it X.1 I hX.i_rl hX.i_hd hX.i_ot hX.i_pt hX.i_it hJ hR with ⟨n, r, I1, I2, e1, e2, e3, hR2⟩ | ⟨n, r, I2, e1, e2, e3, hR2⟩ | ⟨n, r, I2, e1, e2, e3, hR2⟩
  · refine ⟨0, r, _, (I2, (outJ X.1 r.toInt64, X.2)), _, _, ?_, ?_, lr_put (by decide) (by decide) (by decide) (ef_Eng_put hX e1), ef_Mod_put (X := (outJ X.1 r.toInt64, X.2)) (mx_out hM) e2, ef_Mod_thrown (X := (outJ X.1 r.toInt64, X.2)) (I := I2) (mx_out hM) (congrArg some e3), fun _ => outJ_s (J := X.1) (x := r.toInt64), rl, hd, ot, pt, it, ex_out hX, mx_out hM, jok_out hJ, hR2⟩ <;> decide
  · refine ⟨1, r, _, (I2, X), _, _, ?_, ?_, lt_put_IAE (by decide) (et_Eng_put hX e1), ef_Mod_put hM e2, ef_Mod_thrown (I := I2) hM (congrArg some e3), fun q => absurd q (by decide), rl, hd, ot, pt, it, hX, hM, hJ, hR2⟩ <;> decide
  · refine ⟨2, r, _, (I2, X), _, _, ?_, ?_, lt_put_UOE (by decide) (et_Eng_put hX e1), ef_Mod_put hM e2, ef_Mod_thrown (I := I2) hM (congrArg some e3), fun q => absurd q (by decide), rl, hd, ot, pt, it, hX, hM, hJ, hR2⟩ <;> decide
def Ma_end (Rl : RelT) : Prop := ∀ (a0 : Int32) (t : Nat) (_ : t < 512) (rl hd ot pt it : Nat) (J : JM) (I : IM), isPol rl → isMch hd → isMch ot → isPol pt → isMch it → JOK J → Rl t rl hd ot pt it I → (∃ (n : Nat) (I1 : IM) (I2 : IM), f_Eng_end a0 I = some I1 ∧ f_Mod_end a0 I1 = some I2 ∧ I2 MO 0 = 0 ∧ Rl (t + 1) rl hd ot pt it I2) ∨ (∃ (n : Nat) (I2 : IM), t_Eng_end a0 I = some 1 ∧ f_Mod_end a0 I = some I2 ∧ I2 MO 0 = 1 ∧ Rl (t + 1) rl hd ot pt it I2)
set_option maxRecDepth 20000 in
theorem do_end {Δ : Dx} {Rl : RelT} (h : Ma_end Rl) : Do_end Δ (Sx Δ Rl) := by
  intro a0 t ht σ hS
  obtain ⟨I, X⟩ := σ
  obtain ⟨rl, hd, ot, pt, it, hX, hM, hJ, hR⟩ := hS
  rcases h a0 t ht rl hd ot pt it X.1 I hX.i_rl hX.i_hd hX.i_ot hX.i_pt hX.i_it hJ hR with ⟨n, I1, I2, e1, e2, e3, hR2⟩ | ⟨n, I2, e1, e2, e3, hR2⟩
  · refine ⟨0, _, (I2, X), _, _, ?_, ?_, lr_end (by decide) (by decide) (by decide) (ef_Eng_end hX e1), ef_Mod_end hM e2, ef_Mod_thrown (I := I2) hM (congrArg some e3), rl, hd, ot, pt, it, hX, hM, hJ, hR2⟩ <;> decide
  · refine ⟨1, _, (I2, X), _, _, ?_, ?_, lt_end_IAE (by decide) (et_Eng_end hX e1), ef_Mod_end hM e2, ef_Mod_thrown (I := I2) hM (congrArg some e3), rl, hd, ot, pt, it, hX, hM, hJ, hR2⟩ <;> decide
def Ma_policy (Rl : RelT) : Prop := ∀ (t : Nat) (_ : t < 512) (rl hd ot pt it : Nat) (J : JM) (I : IM), isPol rl → isMch hd → isMch ot → isPol pt → isMch it → JOK J → Rl t rl hd ot pt it I → ∃ (n : Nat) (r : Int32) (I1 I2 : IM), f_Eng_policy n hd ot pt J I = some (r, I1) ∧ f_Mod_policy n J I1 = some (r, I2) ∧ (r = (-1 : Int32) → Rl (t + 1) pt hd ot rl it I2) ∧ (¬ r = (-1 : Int32) → Rl (t + 1) rl hd ot pt it I2)
theorem do_policy {Δ : Dx} {Rl : RelT} (h : Ma_policy Rl) : Do_policy Δ (Sx Δ Rl) := by
  intro t ht σ hS
  obtain ⟨I, X⟩ := σ
  obtain ⟨rl, hd, ot, pt, it, hX, hM, hJ, hR⟩ := hS
  obtain ⟨n, r, I1, I2, e1, e2, h1, h2⟩ := h t ht rl hd ot pt it X.1 I hX.i_rl hX.i_hd hX.i_ot hX.i_pt hX.i_it hJ hR
  have E1 := ef_Eng_policy hX e1
  by_cases q : r = (-1 : Int32)
  · rw [if_pos q] at E1
    exact ⟨r, _, (I2, polX Δ X rl pt), _, _, by decide, by decide, E1, ef_Mod_policy (mx_setR (mx_setR hM (by decide)) (by decide)) e2, pt, hd, ot, rl, it, ex_polX hX, mx_setR (mx_setR hM (by decide)) (by decide), hJ, h1 q⟩
  · rw [if_neg q] at E1
    exact ⟨r, _, (I2, X), _, _, by decide, by decide, E1, ef_Mod_policy hM e2, rl, hd, ot, pt, it, hX, hM, hJ, h2 q⟩
def Ma_image (Rl : RelT) : Prop := ∀ (t : Nat) (_ : t < 512) (rl hd ot pt it : Nat) (J : JM) (I : IM), isPol rl → isMch hd → isMch ot → isPol pt → isMch it → JOK J → Rl t rl hd ot pt it I → ∃ (n : Nat) (r : Int32) (I1 I2 : IM), f_Img_read n it J I = some (r, I1) ∧ f_Mod_image n J I1 = some (r, I2) ∧ (r = (-1 : Int32) → Rl (t + 1) rl it ot pt hd I2) ∧ (¬ r = (-1 : Int32) → Rl (t + 1) rl hd ot pt it I2)
theorem do_image {Δ : Dx} {Rl : RelT} (h : Ma_image Rl) : Do_image Δ (Sx Δ Rl) := by
  intro t ht σ hS
  obtain ⟨I, X⟩ := σ
  obtain ⟨rl, hd, ot, pt, it, hX, hM, hJ, hR⟩ := hS
  obtain ⟨n, r, I1, I2, e1, e2, h1, h2⟩ := h t ht rl hd ot pt it X.1 I hX.i_rl hX.i_hd hX.i_ot hX.i_pt hX.i_it hJ hR
  have E1 := ef_Eng_image hX e1
  by_cases q : r = (-1 : Int32)
  · rw [if_pos q] at E1
    exact ⟨r, _, (I2, imgX Δ X hd it), _, _, by decide, by decide, E1, ef_Mod_image (mx_setR (mx_setR hM (by decide)) (by decide)) e2, rl, it, ot, pt, hd, ex_imgX hX, mx_setR (mx_setR hM (by decide)) (by decide), hJ, h1 q⟩
  · rw [if_neg q] at E1
    exact ⟨r, _, (I2, X), _, _, by decide, by decide, E1, ef_Mod_image hM e2, rl, hd, ot, pt, it, hX, hM, hJ, h2 q⟩
def Ma_codeOf (Rl : RelT) : Prop := ∀ (a0 a1 : Int32) (t : Nat) (_ : t < 512) (rl hd ot pt it : Nat) (J : JM) (I : IM), isPol rl → isMch hd → isMch ot → isPol pt → isMch it → JOK J → Rl t rl hd ot pt it I → (∃ (n : Nat) (r : Int32) (I2 : IM), f_Eng_codeOf hd a0 a1 I = some r ∧ f_Mod_codeOf a0 a1 I = some (r, I2) ∧ I2 MO 0 = 0 ∧ Rl (t + 1) rl hd ot pt it I2) ∨ (∃ (n : Nat) (r : Int32) (I2 : IM), t_Eng_codeOf hd a0 a1 I = some 3 ∧ f_Mod_codeOf a0 a1 I = some (r, I2) ∧ I2 MO 0 = 1 ∧ Rl (t + 1) rl hd ot pt it I2) ∨ (∃ (n : Nat) (r : Int32) (I2 : IM), t_Eng_codeOf hd a0 a1 I = some 1 ∧ f_Mod_codeOf a0 a1 I = some (r, I2) ∧ I2 MO 0 = 2 ∧ Rl (t + 1) rl hd ot pt it I2)
set_option maxRecDepth 20000 in
theorem do_codeOf {Δ : Dx} {Rl : RelT} (h : Ma_codeOf Rl) : Do_codeOf Δ (Sx Δ Rl) := by
  intro a0 a1 t ht σ hS
  obtain ⟨I, X⟩ := σ
  obtain ⟨rl, hd, ot, pt, it, hX, hM, hJ, hR⟩ := hS
  rcases h a0 a1 t ht rl hd ot pt it X.1 I hX.i_rl hX.i_hd hX.i_ot hX.i_pt hX.i_it hJ hR with ⟨n, r, I2, e1, e2, e3, hR2⟩ | ⟨n, r, I2, e1, e2, e3, hR2⟩ | ⟨n, r, I2, e1, e2, e3, hR2⟩
  · refine ⟨0, r, _, (I2, (outJ X.1 r.toInt64, X.2)), _, _, ?_, ?_, lr_codeOf (by decide) (by decide) (by decide) (ef_Eng_codeOf hX e1), ef_Mod_codeOf (X := (outJ X.1 r.toInt64, X.2)) (mx_out hM) e2, ef_Mod_thrown (X := (outJ X.1 r.toInt64, X.2)) (I := I2) (mx_out hM) (congrArg some e3), fun _ => outJ_s (J := X.1) (x := r.toInt64), rl, hd, ot, pt, it, ex_out hX, mx_out hM, jok_out hJ, hR2⟩ <;> decide
  · refine ⟨1, r, _, (I2, X), _, _, ?_, ?_, lt_codeOf_IOE (by decide) (et_Eng_codeOf hX e1), ef_Mod_codeOf hM e2, ef_Mod_thrown (I := I2) hM (congrArg some e3), fun q => absurd q (by decide), rl, hd, ot, pt, it, hX, hM, hJ, hR2⟩ <;> decide
  · refine ⟨2, r, _, (I2, X), _, _, ?_, ?_, lt_codeOf_IAE (by decide) (et_Eng_codeOf hX e1), ef_Mod_codeOf hM e2, ef_Mod_thrown (I := I2) hM (congrArg some e3), fun q => absurd q (by decide), rl, hd, ot, pt, it, hX, hM, hJ, hR2⟩ <;> decide
def Ma_begin (Rl : RelT) : Prop := ∀ (a0 : Int32) (t : Nat) (_ : t < 512) (rl hd ot pt it : Nat) (J : JM) (I : IM), isPol rl → isMch hd → isMch ot → isPol pt → isMch it → JOK J → Rl t rl hd ot pt it I → ∃ (n : Nat) (I1 I2 : IM), f_Eng_begin hd a0 I = some I1 ∧ f_Mod_begin n a0 I1 = some I2 ∧ Rl (t + 1) rl hd ot pt it I2
theorem do_begin {Δ : Dx} {Rl : RelT} (h : Ma_begin Rl) : Do_begin Δ (Sx Δ Rl) := by
  intro a0 t ht σ hS
  obtain ⟨I, X⟩ := σ
  obtain ⟨rl, hd, ot, pt, it, hX, hM, hJ, hR⟩ := hS
  obtain ⟨n, I1, I2, e1, e2, h1⟩ := h a0 t ht rl hd ot pt it X.1 I hX.i_rl hX.i_hd hX.i_ot hX.i_pt hX.i_it hJ hR
  exact ⟨_, (I2, X), _, _, by decide, by decide, ef_Eng_begin hX e1, ef_Mod_begin hM e2, rl, hd, ot, pt, it, hX, hM, hJ, h1⟩
def Ma_code (Rl : RelT) : Prop := ∀ (a0 a1 a2 : Int32) (t : Nat) (_ : t < 512) (rl hd ot pt it : Nat) (J : JM) (I : IM), isPol rl → isMch hd → isMch ot → isPol pt → isMch it → JOK J → Rl t rl hd ot pt it I → (∃ (n : Nat) (I1 : IM) (I2 : IM), f_Eng_code hd a0 a1 a2 I = some I1 ∧ f_Mod_code a0 a1 a2 I1 = some I2 ∧ I2 MO 0 = 0 ∧ Rl (t + 1) rl hd ot pt it I2) ∨ (∃ (n : Nat) (I2 : IM), t_Eng_code hd a0 a1 a2 I = some 3 ∧ f_Mod_code a0 a1 a2 I = some I2 ∧ I2 MO 0 = 1 ∧ Rl (t + 1) rl hd ot pt it I2)
set_option maxRecDepth 20000 in
theorem do_code {Δ : Dx} {Rl : RelT} (h : Ma_code Rl) : Do_code Δ (Sx Δ Rl) := by
  intro a0 a1 a2 t ht σ hS
  obtain ⟨I, X⟩ := σ
  obtain ⟨rl, hd, ot, pt, it, hX, hM, hJ, hR⟩ := hS
  rcases h a0 a1 a2 t ht rl hd ot pt it X.1 I hX.i_rl hX.i_hd hX.i_ot hX.i_pt hX.i_it hJ hR with ⟨n, I1, I2, e1, e2, e3, hR2⟩ | ⟨n, I2, e1, e2, e3, hR2⟩
  · refine ⟨0, _, (I2, X), _, _, ?_, ?_, lr_code (by decide) (by decide) (by decide) (ef_Eng_code hX e1), ef_Mod_code hM e2, ef_Mod_thrown (I := I2) hM (congrArg some e3), rl, hd, ot, pt, it, hX, hM, hJ, hR2⟩ <;> decide
  · refine ⟨1, _, (I2, X), _, _, ?_, ?_, lt_code_IOE (by decide) (et_Eng_code hX e1), ef_Mod_code hM e2, ef_Mod_thrown (I := I2) hM (congrArg some e3), rl, hd, ot, pt, it, hX, hM, hJ, hR2⟩ <;> decide
def Ma_word (Rl : RelT) : Prop := ∀ (a0 a1 a2 a3 : Int32) (t : Nat) (_ : t < 512) (rl hd ot pt it : Nat) (J : JM) (I : IM), isPol rl → isMch hd → isMch ot → isPol pt → isMch it → JOK J → Rl t rl hd ot pt it I → (∃ (n : Nat) (I1 : IM) (I2 : IM), f_Eng_word hd a0 a1 a2 a3 I = some I1 ∧ f_Mod_word a0 a1 a2 a3 I1 = some I2 ∧ I2 MO 0 = 0 ∧ Rl (t + 1) rl hd ot pt it I2) ∨ (∃ (n : Nat) (I2 : IM), t_Eng_word hd a0 a1 a2 a3 I = some 3 ∧ f_Mod_word a0 a1 a2 a3 I = some I2 ∧ I2 MO 0 = 1 ∧ Rl (t + 1) rl hd ot pt it I2)
set_option maxRecDepth 20000 in
theorem do_word {Δ : Dx} {Rl : RelT} (h : Ma_word Rl) : Do_word Δ (Sx Δ Rl) := by
  intro a0 a1 a2 a3 t ht σ hS
  obtain ⟨I, X⟩ := σ
  obtain ⟨rl, hd, ot, pt, it, hX, hM, hJ, hR⟩ := hS
  rcases h a0 a1 a2 a3 t ht rl hd ot pt it X.1 I hX.i_rl hX.i_hd hX.i_ot hX.i_pt hX.i_it hJ hR with ⟨n, I1, I2, e1, e2, e3, hR2⟩ | ⟨n, I2, e1, e2, e3, hR2⟩
  · refine ⟨0, _, (I2, X), _, _, ?_, ?_, lr_word (by decide) (by decide) (by decide) (ef_Eng_word hX e1), ef_Mod_word hM e2, ef_Mod_thrown (I := I2) hM (congrArg some e3), rl, hd, ot, pt, it, hX, hM, hJ, hR2⟩ <;> decide
  · refine ⟨1, _, (I2, X), _, _, ?_, ?_, lt_word_IOE (by decide) (et_Eng_word hX e1), ef_Mod_word hM e2, ef_Mod_thrown (I := I2) hM (congrArg some e3), rl, hd, ot, pt, it, hX, hM, hJ, hR2⟩ <;> decide
def Ma_register (Rl : RelT) : Prop := ∀ (a0 a1 a2 : Int32) (t : Nat) (_ : t < 512) (rl hd ot pt it : Nat) (J : JM) (I : IM), isPol rl → isMch hd → isMch ot → isPol pt → isMch it → JOK J → Rl t rl hd ot pt it I → (∃ (n : Nat) (I1 : IM) (I2 : IM), f_Eng_register hd a0 a1 a2 I = some I1 ∧ f_Mod_register a0 a1 a2 I1 = some I2 ∧ I2 MO 0 = 0 ∧ Rl (t + 1) rl hd ot pt it I2) ∨ (∃ (n : Nat) (I2 : IM), t_Eng_register hd a0 a1 a2 I = some 3 ∧ f_Mod_register a0 a1 a2 I = some I2 ∧ I2 MO 0 = 1 ∧ Rl (t + 1) rl hd ot pt it I2)
set_option maxRecDepth 20000 in
theorem do_register {Δ : Dx} {Rl : RelT} (h : Ma_register Rl) : Do_register Δ (Sx Δ Rl) := by
  intro a0 a1 a2 t ht σ hS
  obtain ⟨I, X⟩ := σ
  obtain ⟨rl, hd, ot, pt, it, hX, hM, hJ, hR⟩ := hS
  rcases h a0 a1 a2 t ht rl hd ot pt it X.1 I hX.i_rl hX.i_hd hX.i_ot hX.i_pt hX.i_it hJ hR with ⟨n, I1, I2, e1, e2, e3, hR2⟩ | ⟨n, I2, e1, e2, e3, hR2⟩
  · refine ⟨0, _, (I2, X), _, _, ?_, ?_, lr_register (by decide) (by decide) (by decide) (ef_Eng_register hX e1), ef_Mod_register hM e2, ef_Mod_thrown (I := I2) hM (congrArg some e3), rl, hd, ot, pt, it, hX, hM, hJ, hR2⟩ <;> decide
  · refine ⟨1, _, (I2, X), _, _, ?_, ?_, lt_register_IOE (by decide) (et_Eng_register hX e1), ef_Mod_register hM e2, ef_Mod_thrown (I := I2) hM (congrArg some e3), rl, hd, ot, pt, it, hX, hM, hJ, hR2⟩ <;> decide
def Ma_input (Rl : RelT) : Prop := ∀ (a0 a1 : Int32) (t : Nat) (_ : t < 512) (rl hd ot pt it : Nat) (J : JM) (I : IM), isPol rl → isMch hd → isMch ot → isPol pt → isMch it → JOK J → Rl t rl hd ot pt it I → (∃ (n : Nat) (r : Int32) (I1 : IM) (I2 : IM), f_Eng_input hd a0 a1 I = some (r, I1) ∧ f_Mod_input a0 a1 I1 = some (r, I2) ∧ I2 MO 0 = 0 ∧ Rl (t + 1) rl hd ot pt it I2) ∨ (∃ (n : Nat) (r : Int32) (I2 : IM), t_Eng_input hd a0 a1 I = some 2 ∧ f_Mod_input a0 a1 I = some (r, I2) ∧ I2 MO 0 = 1 ∧ Rl (t + 1) rl hd ot pt it I2)
set_option maxRecDepth 20000 in
theorem do_input {Δ : Dx} {Rl : RelT} (h : Ma_input Rl) : Do_input Δ (Sx Δ Rl) := by
  intro a0 a1 t ht σ hS
  obtain ⟨I, X⟩ := σ
  obtain ⟨rl, hd, ot, pt, it, hX, hM, hJ, hR⟩ := hS
  rcases h a0 a1 t ht rl hd ot pt it X.1 I hX.i_rl hX.i_hd hX.i_ot hX.i_pt hX.i_it hJ hR with ⟨n, r, I1, I2, e1, e2, e3, hR2⟩ | ⟨n, r, I2, e1, e2, e3, hR2⟩
  · refine ⟨0, r, _, (I2, (outJ X.1 r.toInt64, X.2)), _, _, ?_, ?_, lr_input (by decide) (by decide) (by decide) (ef_Eng_input hX e1), ef_Mod_input (X := (outJ X.1 r.toInt64, X.2)) (mx_out hM) e2, ef_Mod_thrown (X := (outJ X.1 r.toInt64, X.2)) (I := I2) (mx_out hM) (congrArg some e3), fun _ => outJ_s (J := X.1) (x := r.toInt64), rl, hd, ot, pt, it, ex_out hX, mx_out hM, jok_out hJ, hR2⟩ <;> decide
  · refine ⟨1, r, _, (I2, X), _, _, ?_, ?_, lt_input_UOE (by decide) (et_Eng_input hX e1), ef_Mod_input hM e2, ef_Mod_thrown (I := I2) hM (congrArg some e3), fun q => absurd q (by decide), rl, hd, ot, pt, it, hX, hM, hJ, hR2⟩ <;> decide
def Ma_run (Rl : RelT) : Prop := ∀ (a0 : Int32) (t : Nat) (_ : t < 512) (rl hd ot pt it : Nat) (J : JM) (I : IM), isPol rl → isMch hd → isMch ot → isPol pt → isMch it → JOK J → Rl t rl hd ot pt it I → (∃ (n : Nat) (r : Int32) (I1 : IM) (I2 : IM), f_Eng_run n rl hd a0 I = some (r, I1) ∧ f_Mod_run n a0 I1 = some (r, I2) ∧ I2 MO 0 = 0 ∧ Rl (t + 1) rl hd ot pt it I2) ∨ (∃ (n : Nat) (r : Int32) (I2 : IM), t_Eng_run n rl hd a0 I = some 1 ∧ f_Mod_run n a0 I = some (r, I2) ∧ I2 MO 0 = 1 ∧ Rl (t + 1) rl hd ot pt it I2) ∨ (∃ (n : Nat) (r : Int32) (I2 : IM), t_Eng_run n rl hd a0 I = some 4 ∧ f_Mod_run n a0 I = some (r, I2) ∧ I2 MO 0 = 2 ∧ Rl (t + 1) rl hd ot pt it I2)
set_option maxRecDepth 20000 in
theorem do_run {Δ : Dx} {Rl : RelT} (h : Ma_run Rl) : Do_run Δ (Sx Δ Rl) := by
  intro a0 t ht σ hS
  obtain ⟨I, X⟩ := σ
  obtain ⟨rl, hd, ot, pt, it, hX, hM, hJ, hR⟩ := hS
  rcases h a0 t ht rl hd ot pt it X.1 I hX.i_rl hX.i_hd hX.i_ot hX.i_pt hX.i_it hJ hR with ⟨n, r, I1, I2, e1, e2, e3, hR2⟩ | ⟨n, r, I2, e1, e2, e3, hR2⟩ | ⟨n, r, I2, e1, e2, e3, hR2⟩
  · refine ⟨0, r, _, (I2, (outJ X.1 r.toInt64, X.2)), _, _, ?_, ?_, lr_run (by decide) (by decide) (by decide) (ef_Eng_run hX e1), ef_Mod_run (X := (outJ X.1 r.toInt64, X.2)) (mx_out hM) e2, ef_Mod_thrown (X := (outJ X.1 r.toInt64, X.2)) (I := I2) (mx_out hM) (congrArg some e3), fun _ => outJ_s (J := X.1) (x := r.toInt64), rl, hd, ot, pt, it, ex_out hX, mx_out hM, jok_out hJ, hR2⟩ <;> decide
  · refine ⟨1, r, _, (I2, X), _, _, ?_, ?_, lt_run_IAE (by decide) (et_Eng_run hX e1), ef_Mod_run hM e2, ef_Mod_thrown (I := I2) hM (congrArg some e3), fun q => absurd q (by decide), rl, hd, ot, pt, it, hX, hM, hJ, hR2⟩ <;> decide
  · refine ⟨2, r, _, (I2, X), _, _, ?_, ?_, lt_run_ISE (by decide) (et_Eng_run hX e1), ef_Mod_run hM e2, ef_Mod_thrown (I := I2) hM (congrArg some e3), fun q => absurd q (by decide), rl, hd, ot, pt, it, hX, hM, hJ, hR2⟩ <;> decide
def Ma_state (Rl : RelT) : Prop := ∀ (a0 : Int32) (t : Nat) (_ : t < 512) (rl hd ot pt it : Nat) (J : JM) (I : IM), isPol rl → isMch hd → isMch ot → isPol pt → isMch it → JOK J → Rl t rl hd ot pt it I → (∃ (n : Nat) (r : Int32) (I2 : IM), f_Eng_state hd a0 I = some r ∧ f_Mod_state a0 I = some (r, I2) ∧ I2 MO 0 = 0 ∧ Rl (t + 1) rl hd ot pt it I2) ∨ (∃ (n : Nat) (r : Int32) (I2 : IM), t_Eng_state hd a0 I = some 1 ∧ f_Mod_state a0 I = some (r, I2) ∧ I2 MO 0 = 1 ∧ Rl (t + 1) rl hd ot pt it I2)
set_option maxRecDepth 20000 in
theorem do_state {Δ : Dx} {Rl : RelT} (h : Ma_state Rl) : Do_state Δ (Sx Δ Rl) := by
  intro a0 t ht σ hS
  obtain ⟨I, X⟩ := σ
  obtain ⟨rl, hd, ot, pt, it, hX, hM, hJ, hR⟩ := hS
  rcases h a0 t ht rl hd ot pt it X.1 I hX.i_rl hX.i_hd hX.i_ot hX.i_pt hX.i_it hJ hR with ⟨n, r, I2, e1, e2, e3, hR2⟩ | ⟨n, r, I2, e1, e2, e3, hR2⟩
  · refine ⟨0, r, _, (I2, (outJ X.1 r.toInt64, X.2)), _, _, ?_, ?_, lr_state (by decide) (by decide) (by decide) (ef_Eng_state hX e1), ef_Mod_state (X := (outJ X.1 r.toInt64, X.2)) (mx_out hM) e2, ef_Mod_thrown (X := (outJ X.1 r.toInt64, X.2)) (I := I2) (mx_out hM) (congrArg some e3), fun _ => outJ_s (J := X.1) (x := r.toInt64), rl, hd, ot, pt, it, ex_out hX, mx_out hM, jok_out hJ, hR2⟩ <;> decide
  · refine ⟨1, r, _, (I2, X), _, _, ?_, ?_, lt_state_IAE (by decide) (et_Eng_state hX e1), ef_Mod_state hM e2, ef_Mod_thrown (I := I2) hM (congrArg some e3), fun q => absurd q (by decide), rl, hd, ot, pt, it, hX, hM, hJ, hR2⟩ <;> decide
def Ma_registerOf (Rl : RelT) : Prop := ∀ (a0 a1 : Int32) (t : Nat) (_ : t < 512) (rl hd ot pt it : Nat) (J : JM) (I : IM), isPol rl → isMch hd → isMch ot → isPol pt → isMch it → JOK J → Rl t rl hd ot pt it I → (∃ (n : Nat) (r : Int32) (I2 : IM), f_Eng_registerOf hd a0 a1 I = some r ∧ f_Mod_registerOf a0 a1 I = some (r, I2) ∧ I2 MO 0 = 0 ∧ Rl (t + 1) rl hd ot pt it I2) ∨ (∃ (n : Nat) (r : Int32) (I2 : IM), t_Eng_registerOf hd a0 a1 I = some 3 ∧ f_Mod_registerOf a0 a1 I = some (r, I2) ∧ I2 MO 0 = 1 ∧ Rl (t + 1) rl hd ot pt it I2) ∨ (∃ (n : Nat) (r : Int32) (I2 : IM), t_Eng_registerOf hd a0 a1 I = some 1 ∧ f_Mod_registerOf a0 a1 I = some (r, I2) ∧ I2 MO 0 = 2 ∧ Rl (t + 1) rl hd ot pt it I2)
set_option maxRecDepth 20000 in
theorem do_registerOf {Δ : Dx} {Rl : RelT} (h : Ma_registerOf Rl) : Do_registerOf Δ (Sx Δ Rl) := by
  intro a0 a1 t ht σ hS
  obtain ⟨I, X⟩ := σ
  obtain ⟨rl, hd, ot, pt, it, hX, hM, hJ, hR⟩ := hS
  rcases h a0 a1 t ht rl hd ot pt it X.1 I hX.i_rl hX.i_hd hX.i_ot hX.i_pt hX.i_it hJ hR with ⟨n, r, I2, e1, e2, e3, hR2⟩ | ⟨n, r, I2, e1, e2, e3, hR2⟩ | ⟨n, r, I2, e1, e2, e3, hR2⟩
  · refine ⟨0, r, _, (I2, (outJ X.1 r.toInt64, X.2)), _, _, ?_, ?_, lr_registerOf (by decide) (by decide) (by decide) (ef_Eng_registerOf hX e1), ef_Mod_registerOf (X := (outJ X.1 r.toInt64, X.2)) (mx_out hM) e2, ef_Mod_thrown (X := (outJ X.1 r.toInt64, X.2)) (I := I2) (mx_out hM) (congrArg some e3), fun _ => outJ_s (J := X.1) (x := r.toInt64), rl, hd, ot, pt, it, ex_out hX, mx_out hM, jok_out hJ, hR2⟩ <;> decide
  · refine ⟨1, r, _, (I2, X), _, _, ?_, ?_, lt_registerOf_IOE (by decide) (et_Eng_registerOf hX e1), ef_Mod_registerOf hM e2, ef_Mod_thrown (I := I2) hM (congrArg some e3), fun q => absurd q (by decide), rl, hd, ot, pt, it, hX, hM, hJ, hR2⟩ <;> decide
  · refine ⟨2, r, _, (I2, X), _, _, ?_, ?_, lt_registerOf_IAE (by decide) (et_Eng_registerOf hX e1), ef_Mod_registerOf hM e2, ef_Mod_thrown (I := I2) hM (congrArg some e3), fun q => absurd q (by decide), rl, hd, ot, pt, it, hX, hM, hJ, hR2⟩ <;> decide
def Ma_wordOf (Rl : RelT) : Prop := ∀ (a0 a1 : Int32) (t : Nat) (_ : t < 512) (rl hd ot pt it : Nat) (J : JM) (I : IM), isPol rl → isMch hd → isMch ot → isPol pt → isMch it → JOK J → Rl t rl hd ot pt it I → (∃ (n : Nat) (r : Int32) (I2 : IM), f_Eng_wordOf hd a0 a1 I = some r ∧ f_Mod_wordOf a0 a1 I = some (r, I2) ∧ I2 MO 0 = 0 ∧ Rl (t + 1) rl hd ot pt it I2) ∨ (∃ (n : Nat) (r : Int32) (I2 : IM), t_Eng_wordOf hd a0 a1 I = some 3 ∧ f_Mod_wordOf a0 a1 I = some (r, I2) ∧ I2 MO 0 = 1 ∧ Rl (t + 1) rl hd ot pt it I2) ∨ (∃ (n : Nat) (r : Int32) (I2 : IM), t_Eng_wordOf hd a0 a1 I = some 1 ∧ f_Mod_wordOf a0 a1 I = some (r, I2) ∧ I2 MO 0 = 2 ∧ Rl (t + 1) rl hd ot pt it I2)
set_option maxRecDepth 20000 in
theorem do_wordOf {Δ : Dx} {Rl : RelT} (h : Ma_wordOf Rl) : Do_wordOf Δ (Sx Δ Rl) := by
  intro a0 a1 t ht σ hS
  obtain ⟨I, X⟩ := σ
  obtain ⟨rl, hd, ot, pt, it, hX, hM, hJ, hR⟩ := hS
  rcases h a0 a1 t ht rl hd ot pt it X.1 I hX.i_rl hX.i_hd hX.i_ot hX.i_pt hX.i_it hJ hR with ⟨n, r, I2, e1, e2, e3, hR2⟩ | ⟨n, r, I2, e1, e2, e3, hR2⟩ | ⟨n, r, I2, e1, e2, e3, hR2⟩
  · refine ⟨0, r, _, (I2, (outJ X.1 r.toInt64, X.2)), _, _, ?_, ?_, lr_wordOf (by decide) (by decide) (by decide) (ef_Eng_wordOf hX e1), ef_Mod_wordOf (X := (outJ X.1 r.toInt64, X.2)) (mx_out hM) e2, ef_Mod_thrown (X := (outJ X.1 r.toInt64, X.2)) (I := I2) (mx_out hM) (congrArg some e3), fun _ => outJ_s (J := X.1) (x := r.toInt64), rl, hd, ot, pt, it, ex_out hX, mx_out hM, jok_out hJ, hR2⟩ <;> decide
  · refine ⟨1, r, _, (I2, X), _, _, ?_, ?_, lt_wordOf_IOE (by decide) (et_Eng_wordOf hX e1), ef_Mod_wordOf hM e2, ef_Mod_thrown (I := I2) hM (congrArg some e3), fun q => absurd q (by decide), rl, hd, ot, pt, it, hX, hM, hJ, hR2⟩ <;> decide
  · refine ⟨2, r, _, (I2, X), _, _, ?_, ?_, lt_wordOf_IAE (by decide) (et_Eng_wordOf hX e1), ef_Mod_wordOf hM e2, ef_Mod_thrown (I := I2) hM (congrArg some e3), fun q => absurd q (by decide), rl, hd, ot, pt, it, hX, hM, hJ, hR2⟩ <;> decide
def Ma_output (Rl : RelT) : Prop := ∀ (a0 : Int32) (t : Nat) (_ : t < 512) (rl hd ot pt it : Nat) (J : JM) (I : IM), isPol rl → isMch hd → isMch ot → isPol pt → isMch it → JOK J → Rl t rl hd ot pt it I → (∃ (n : Nat) (r : Int32) (I2 : IM), f_Eng_output hd a0 I = some r ∧ f_Mod_output a0 I = some (r, I2) ∧ I2 MO 0 = 0 ∧ Rl (t + 1) rl hd ot pt it I2) ∨ (∃ (n : Nat) (r : Int32) (I2 : IM), t_Eng_output hd a0 I = some 3 ∧ f_Mod_output a0 I = some (r, I2) ∧ I2 MO 0 = 1 ∧ Rl (t + 1) rl hd ot pt it I2)
set_option maxRecDepth 20000 in
theorem do_output {Δ : Dx} {Rl : RelT} (h : Ma_output Rl) : Do_output Δ (Sx Δ Rl) := by
  intro a0 t ht σ hS
  obtain ⟨I, X⟩ := σ
  obtain ⟨rl, hd, ot, pt, it, hX, hM, hJ, hR⟩ := hS
  rcases h a0 t ht rl hd ot pt it X.1 I hX.i_rl hX.i_hd hX.i_ot hX.i_pt hX.i_it hJ hR with ⟨n, r, I2, e1, e2, e3, hR2⟩ | ⟨n, r, I2, e1, e2, e3, hR2⟩
  · refine ⟨0, r, _, (I2, (outJ X.1 r.toInt64, X.2)), _, _, ?_, ?_, lr_output (by decide) (by decide) (by decide) (ef_Eng_output hX e1), ef_Mod_output (X := (outJ X.1 r.toInt64, X.2)) (mx_out hM) e2, ef_Mod_thrown (X := (outJ X.1 r.toInt64, X.2)) (I := I2) (mx_out hM) (congrArg some e3), fun _ => outJ_s (J := X.1) (x := r.toInt64), rl, hd, ot, pt, it, ex_out hX, mx_out hM, jok_out hJ, hR2⟩ <;> decide
  · refine ⟨1, r, _, (I2, X), _, _, ?_, ?_, lt_output_IOE (by decide) (et_Eng_output hX e1), ef_Mod_output hM e2, ef_Mod_thrown (I := I2) hM (congrArg some e3), fun q => absurd q (by decide), rl, hd, ot, pt, it, hX, hM, hJ, hR2⟩ <;> decide
def Ma_pairOf (Rl : RelT) : Prop := ∀ (a0 a1 : Int32) (t : Nat) (_ : t < 512) (rl hd ot pt it : Nat) (J : JM) (I : IM), isPol rl → isMch hd → isMch ot → isPol pt → isMch it → JOK J → Rl t rl hd ot pt it I → (∃ (n : Nat) (r : Int32) (I2 : IM), f_Eng_pairOf hd a0 a1 I = some r ∧ f_Mod_pairOf a0 a1 I = some (r, I2) ∧ I2 MO 0 = 0 ∧ Rl (t + 1) rl hd ot pt it I2) ∨ (∃ (n : Nat) (r : Int32) (I2 : IM), t_Eng_pairOf hd a0 a1 I = some 3 ∧ f_Mod_pairOf a0 a1 I = some (r, I2) ∧ I2 MO 0 = 1 ∧ Rl (t + 1) rl hd ot pt it I2) ∨ (∃ (n : Nat) (r : Int32) (I2 : IM), t_Eng_pairOf hd a0 a1 I = some 1 ∧ f_Mod_pairOf a0 a1 I = some (r, I2) ∧ I2 MO 0 = 2 ∧ Rl (t + 1) rl hd ot pt it I2)
set_option maxRecDepth 20000 in
theorem do_pairOf {Δ : Dx} {Rl : RelT} (h : Ma_pairOf Rl) : Do_pairOf Δ (Sx Δ Rl) := by
  intro a0 a1 t ht σ hS
  obtain ⟨I, X⟩ := σ
  obtain ⟨rl, hd, ot, pt, it, hX, hM, hJ, hR⟩ := hS
  rcases h a0 a1 t ht rl hd ot pt it X.1 I hX.i_rl hX.i_hd hX.i_ot hX.i_pt hX.i_it hJ hR with ⟨n, r, I2, e1, e2, e3, hR2⟩ | ⟨n, r, I2, e1, e2, e3, hR2⟩ | ⟨n, r, I2, e1, e2, e3, hR2⟩
  · refine ⟨0, r, _, (I2, (outJ X.1 r.toInt64, X.2)), _, _, ?_, ?_, lr_pairOf (by decide) (by decide) (by decide) (ef_Eng_pairOf hX e1), ef_Mod_pairOf (X := (outJ X.1 r.toInt64, X.2)) (mx_out hM) e2, ef_Mod_thrown (X := (outJ X.1 r.toInt64, X.2)) (I := I2) (mx_out hM) (congrArg some e3), fun _ => outJ_s (J := X.1) (x := r.toInt64), rl, hd, ot, pt, it, ex_out hX, mx_out hM, jok_out hJ, hR2⟩ <;> decide
  · refine ⟨1, r, _, (I2, X), _, _, ?_, ?_, lt_pairOf_IOE (by decide) (et_Eng_pairOf hX e1), ef_Mod_pairOf hM e2, ef_Mod_thrown (I := I2) hM (congrArg some e3), fun q => absurd q (by decide), rl, hd, ot, pt, it, hX, hM, hJ, hR2⟩ <;> decide
  · refine ⟨2, r, _, (I2, X), _, _, ?_, ?_, lt_pairOf_IAE (by decide) (et_Eng_pairOf hX e1), ef_Mod_pairOf hM e2, ef_Mod_thrown (I := I2) hM (congrArg some e3), fun q => absurd q (by decide), rl, hd, ot, pt, it, hX, hM, hJ, hR2⟩ <;> decide
def Ma_names (Rl : RelT) : Prop := ∀ (a0 : Int32) (t : Nat) (_ : t < 512) (rl hd ot pt it : Nat) (J : JM) (I : IM), isPol rl → isMch hd → isMch ot → isPol pt → isMch it → JOK J → Rl t rl hd ot pt it I → (∃ (n : Nat) (r : Int32) (I2 : IM), f_Eng_names rl a0 I = some r ∧ f_Mod_names a0 I = some (r, I2) ∧ I2 MO 0 = 0 ∧ Rl (t + 1) rl hd ot pt it I2) ∨ (∃ (n : Nat) (r : Int32) (I2 : IM), t_Eng_names rl a0 I = some 1 ∧ f_Mod_names a0 I = some (r, I2) ∧ I2 MO 0 = 1 ∧ Rl (t + 1) rl hd ot pt it I2)
set_option maxRecDepth 20000 in
theorem do_names {Δ : Dx} {Rl : RelT} (h : Ma_names Rl) : Do_names Δ (Sx Δ Rl) := by
  intro a0 t ht σ hS
  obtain ⟨I, X⟩ := σ
  obtain ⟨rl, hd, ot, pt, it, hX, hM, hJ, hR⟩ := hS
  rcases h a0 t ht rl hd ot pt it X.1 I hX.i_rl hX.i_hd hX.i_ot hX.i_pt hX.i_it hJ hR with ⟨n, r, I2, e1, e2, e3, hR2⟩ | ⟨n, r, I2, e1, e2, e3, hR2⟩
  · refine ⟨0, r, _, (I2, (outJ X.1 r.toInt64, X.2)), _, _, ?_, ?_, lr_names (by decide) (by decide) (by decide) (ef_Eng_names hX e1), ef_Mod_names (X := (outJ X.1 r.toInt64, X.2)) (mx_out hM) e2, ef_Mod_thrown (X := (outJ X.1 r.toInt64, X.2)) (I := I2) (mx_out hM) (congrArg some e3), fun _ => outJ_s (J := X.1) (x := r.toInt64), rl, hd, ot, pt, it, ex_out hX, mx_out hM, jok_out hJ, hR2⟩ <;> decide
  · refine ⟨1, r, _, (I2, X), _, _, ?_, ?_, lt_names_IAE (by decide) (et_Eng_names hX e1), ef_Mod_names hM e2, ef_Mod_thrown (I := I2) hM (congrArg some e3), fun q => absurd q (by decide), rl, hd, ot, pt, it, hX, hM, hJ, hR2⟩ <;> decide
def Ma_blame (Rl : RelT) : Prop := ∀ (t : Nat) (_ : t < 512) (rl hd ot pt it : Nat) (J : JM) (I : IM), isPol rl → isMch hd → isMch ot → isPol pt → isMch it → JOK J → Rl t rl hd ot pt it I → ∃ (n : Nat) (r : Int32) (I2 : IM), f_Eng_blame hd I = some r ∧ f_Mod_blame I = some (r, I2) ∧ Rl (t + 1) rl hd ot pt it I2
theorem do_blame {Δ : Dx} {Rl : RelT} (h : Ma_blame Rl) : Do_blame Δ (Sx Δ Rl) := by
  intro t ht σ hS
  obtain ⟨I, X⟩ := σ
  obtain ⟨rl, hd, ot, pt, it, hX, hM, hJ, hR⟩ := hS
  obtain ⟨n, r, I2, e1, e2, h1⟩ := h t ht rl hd ot pt it X.1 I hX.i_rl hX.i_hd hX.i_ot hX.i_pt hX.i_it hJ hR
  exact ⟨r, _, (I2, X), _, _, by decide, by decide, ef_Eng_blame hX e1, ef_Mod_blame hM e2, rl, hd, ot, pt, it, hX, hM, hJ, h1⟩
def Ma_journal (Rl : RelT) : Prop := ∀ (a0 a1 : Int32) (t : Nat) (_ : t < 512) (rl hd ot pt it : Nat) (J : JM) (I : IM), isPol rl → isMch hd → isMch ot → isPol pt → isMch it → JOK J → Rl t rl hd ot pt it I → (∃ (n : Nat) (r : Int32) (I2 : IM), f_Eng_journal hd a0 a1 I = some r ∧ f_Mod_journal a0 a1 I = some (r, I2) ∧ I2 MO 0 = 0 ∧ Rl (t + 1) rl hd ot pt it I2) ∨ (∃ (n : Nat) (r : Int32) (I2 : IM), t_Eng_journal hd a0 a1 I = some 3 ∧ f_Mod_journal a0 a1 I = some (r, I2) ∧ I2 MO 0 = 1 ∧ Rl (t + 1) rl hd ot pt it I2) ∨ (∃ (n : Nat) (r : Int32) (I2 : IM), t_Eng_journal hd a0 a1 I = some 1 ∧ f_Mod_journal a0 a1 I = some (r, I2) ∧ I2 MO 0 = 2 ∧ Rl (t + 1) rl hd ot pt it I2)
set_option maxRecDepth 20000 in
theorem do_journal {Δ : Dx} {Rl : RelT} (h : Ma_journal Rl) : Do_journal Δ (Sx Δ Rl) := by
  intro a0 a1 t ht σ hS
  obtain ⟨I, X⟩ := σ
  obtain ⟨rl, hd, ot, pt, it, hX, hM, hJ, hR⟩ := hS
  rcases h a0 a1 t ht rl hd ot pt it X.1 I hX.i_rl hX.i_hd hX.i_ot hX.i_pt hX.i_it hJ hR with ⟨n, r, I2, e1, e2, e3, hR2⟩ | ⟨n, r, I2, e1, e2, e3, hR2⟩ | ⟨n, r, I2, e1, e2, e3, hR2⟩
  · refine ⟨0, r, _, (I2, (outJ X.1 r.toInt64, X.2)), _, _, ?_, ?_, lr_journal (by decide) (by decide) (by decide) (ef_Eng_journal hX e1), ef_Mod_journal (X := (outJ X.1 r.toInt64, X.2)) (mx_out hM) e2, ef_Mod_thrown (X := (outJ X.1 r.toInt64, X.2)) (I := I2) (mx_out hM) (congrArg some e3), fun _ => outJ_s (J := X.1) (x := r.toInt64), rl, hd, ot, pt, it, ex_out hX, mx_out hM, jok_out hJ, hR2⟩ <;> decide
  · refine ⟨1, r, _, (I2, X), _, _, ?_, ?_, lt_journal_IOE (by decide) (et_Eng_journal hX e1), ef_Mod_journal hM e2, ef_Mod_thrown (I := I2) hM (congrArg some e3), fun q => absurd q (by decide), rl, hd, ot, pt, it, hX, hM, hJ, hR2⟩ <;> decide
  · refine ⟨2, r, _, (I2, X), _, _, ?_, ?_, lt_journal_IAE (by decide) (et_Eng_journal hX e1), ef_Mod_journal hM e2, ef_Mod_thrown (I := I2) hM (congrArg some e3), fun q => absurd q (by decide), rl, hd, ot, pt, it, hX, hM, hJ, hR2⟩ <;> decide
def Ma_count (Rl : RelT) : Prop := ∀ (a0 a1 : Int32) (t : Nat) (_ : t < 512) (rl hd ot pt it : Nat) (J : JM) (I : IM), isPol rl → isMch hd → isMch ot → isPol pt → isMch it → JOK J → Rl t rl hd ot pt it I → (∃ (n : Nat) (r : Int32) (I2 : IM), f_Eng_count hd a0 a1 I = some r ∧ f_Mod_count a0 a1 I = some (r, I2) ∧ I2 MO 0 = 0 ∧ Rl (t + 1) rl hd ot pt it I2) ∨ (∃ (n : Nat) (r : Int32) (I2 : IM), t_Eng_count hd a0 a1 I = some 1 ∧ f_Mod_count a0 a1 I = some (r, I2) ∧ I2 MO 0 = 1 ∧ Rl (t + 1) rl hd ot pt it I2)
set_option maxRecDepth 20000 in
theorem do_count {Δ : Dx} {Rl : RelT} (h : Ma_count Rl) : Do_count Δ (Sx Δ Rl) := by
  intro a0 a1 t ht σ hS
  obtain ⟨I, X⟩ := σ
  obtain ⟨rl, hd, ot, pt, it, hX, hM, hJ, hR⟩ := hS
  rcases h a0 a1 t ht rl hd ot pt it X.1 I hX.i_rl hX.i_hd hX.i_ot hX.i_pt hX.i_it hJ hR with ⟨n, r, I2, e1, e2, e3, hR2⟩ | ⟨n, r, I2, e1, e2, e3, hR2⟩
  · refine ⟨0, r, _, (I2, (outJ X.1 r.toInt64, X.2)), _, _, ?_, ?_, lr_count (by decide) (by decide) (by decide) (ef_Eng_count hX e1), ef_Mod_count (X := (outJ X.1 r.toInt64, X.2)) (mx_out hM) e2, ef_Mod_thrown (X := (outJ X.1 r.toInt64, X.2)) (I := I2) (mx_out hM) (congrArg some e3), fun _ => outJ_s (J := X.1) (x := r.toInt64), rl, hd, ot, pt, it, ex_out hX, mx_out hM, jok_out hJ, hR2⟩ <;> decide
  · refine ⟨1, r, _, (I2, X), _, _, ?_, ?_, lt_count_IAE (by decide) (et_Eng_count hX e1), ef_Mod_count hM e2, ef_Mod_thrown (I := I2) hM (congrArg some e3), fun q => absurd q (by decide), rl, hd, ot, pt, it, hX, hM, hJ, hR2⟩ <;> decide
def Ma_cacheOf (Rl : RelT) : Prop := ∀ (a0 a1 : Int32) (t : Nat) (_ : t < 512) (rl hd ot pt it : Nat) (J : JM) (I : IM), isPol rl → isMch hd → isMch ot → isPol pt → isMch it → JOK J → Rl t rl hd ot pt it I → (∃ (n : Nat) (r : Int32) (I2 : IM), f_Eng_cacheOf hd a0 a1 I = some r ∧ f_Mod_cacheOf n a0 a1 I = some (r, I2) ∧ I2 MO 0 = 0 ∧ Rl (t + 1) rl hd ot pt it I2) ∨ (∃ (n : Nat) (r : Int32) (I2 : IM), t_Eng_cacheOf hd a0 a1 I = some 3 ∧ f_Mod_cacheOf n a0 a1 I = some (r, I2) ∧ I2 MO 0 = 1 ∧ Rl (t + 1) rl hd ot pt it I2) ∨ (∃ (n : Nat) (r : Int32) (I2 : IM), t_Eng_cacheOf hd a0 a1 I = some 1 ∧ f_Mod_cacheOf n a0 a1 I = some (r, I2) ∧ I2 MO 0 = 2 ∧ Rl (t + 1) rl hd ot pt it I2)
set_option maxRecDepth 20000 in
theorem do_cacheOf {Δ : Dx} {Rl : RelT} (h : Ma_cacheOf Rl) : Do_cacheOf Δ (Sx Δ Rl) := by
  intro a0 a1 t ht σ hS
  obtain ⟨I, X⟩ := σ
  obtain ⟨rl, hd, ot, pt, it, hX, hM, hJ, hR⟩ := hS
  rcases h a0 a1 t ht rl hd ot pt it X.1 I hX.i_rl hX.i_hd hX.i_ot hX.i_pt hX.i_it hJ hR with ⟨n, r, I2, e1, e2, e3, hR2⟩ | ⟨n, r, I2, e1, e2, e3, hR2⟩ | ⟨n, r, I2, e1, e2, e3, hR2⟩
  · refine ⟨0, r, _, (I2, (outJ X.1 r.toInt64, X.2)), _, _, ?_, ?_, lr_cacheOf (by decide) (by decide) (by decide) (ef_Eng_cacheOf hX e1), ef_Mod_cacheOf (X := (outJ X.1 r.toInt64, X.2)) (mx_out hM) e2, ef_Mod_thrown (X := (outJ X.1 r.toInt64, X.2)) (I := I2) (mx_out hM) (congrArg some e3), fun _ => outJ_s (J := X.1) (x := r.toInt64), rl, hd, ot, pt, it, ex_out hX, mx_out hM, jok_out hJ, hR2⟩ <;> decide
  · refine ⟨1, r, _, (I2, X), _, _, ?_, ?_, lt_cacheOf_IOE (by decide) (et_Eng_cacheOf hX e1), ef_Mod_cacheOf hM e2, ef_Mod_thrown (I := I2) hM (congrArg some e3), fun q => absurd q (by decide), rl, hd, ot, pt, it, hX, hM, hJ, hR2⟩ <;> decide
  · refine ⟨2, r, _, (I2, X), _, _, ?_, ?_, lt_cacheOf_IAE (by decide) (et_Eng_cacheOf hX e1), ef_Mod_cacheOf hM e2, ef_Mod_thrown (I := I2) hM (congrArg some e3), fun q => absurd q (by decide), rl, hd, ot, pt, it, hX, hM, hJ, hR2⟩ <;> decide
def Ma_keep (Rl : RelT) : Prop := ∀ (t : Nat) (_ : t < 512) (rl hd ot pt it : Nat) (J : JM) (I : IM), isPol rl → isMch hd → isMch ot → isPol pt → isMch it → JOK J → Rl t rl hd ot pt it I → ∃ (n : Nat) (I1 I2 : IM), f_Eng_keep rl I = some I1 ∧ f_Mod_keep n I1 = some I2 ∧ Rl (t + 1) rl hd ot pt it I2
theorem do_keep {Δ : Dx} {Rl : RelT} (h : Ma_keep Rl) : Do_keep Δ (Sx Δ Rl) := by
  intro t ht σ hS
  obtain ⟨I, X⟩ := σ
  obtain ⟨rl, hd, ot, pt, it, hX, hM, hJ, hR⟩ := hS
  obtain ⟨n, I1, I2, e1, e2, h1⟩ := h t ht rl hd ot pt it X.1 I hX.i_rl hX.i_hd hX.i_ot hX.i_pt hX.i_it hJ hR
  exact ⟨_, (I2, X), _, _, by decide, by decide, ef_Eng_keep hX e1, ef_Mod_keep hM e2, rl, hd, ot, pt, it, hX, hM, hJ, h1⟩
def Ma_differ (Rl : RelT) : Prop := ∀ (a0 a1 : Int32) (t : Nat) (_ : t < 512) (rl hd ot pt it : Nat) (J : JM) (I : IM), isPol rl → isMch hd → isMch ot → isPol pt → isMch it → JOK J → Rl t rl hd ot pt it I → (∃ (n : Nat) (r : Int32) (I1 : IM) (I2 : IM), f_Eng_differ n rl hd a0 a1 I = some (r, I1) ∧ f_Mod_differ n a0 a1 I1 = some (r, I2) ∧ I2 MO 0 = 0 ∧ Rl (t + 1) rl hd ot pt it I2) ∨ (∃ (n : Nat) (r : Int32) (I2 : IM), t_Eng_differ n rl hd a0 a1 I = some 1 ∧ f_Mod_differ n a0 a1 I = some (r, I2) ∧ I2 MO 0 = 1 ∧ Rl (t + 1) rl hd ot pt it I2) ∨ (∃ (n : Nat) (r : Int32) (I2 : IM), t_Eng_differ n rl hd a0 a1 I = some 4 ∧ f_Mod_differ n a0 a1 I = some (r, I2) ∧ I2 MO 0 = 2 ∧ Rl (t + 1) rl hd ot pt it I2) ∨ (∃ (n : Nat) (r : Int32) (I2 : IM), t_Eng_differ n rl hd a0 a1 I = some 2 ∧ f_Mod_differ n a0 a1 I = some (r, I2) ∧ I2 MO 0 = 3 ∧ Rl (t + 1) rl hd ot pt it I2)
set_option maxRecDepth 20000 in
theorem do_differ {Δ : Dx} {Rl : RelT} (h : Ma_differ Rl) : Do_differ Δ (Sx Δ Rl) := by
  intro a0 a1 t ht σ hS
  obtain ⟨I, X⟩ := σ
  obtain ⟨rl, hd, ot, pt, it, hX, hM, hJ, hR⟩ := hS
  rcases h a0 a1 t ht rl hd ot pt it X.1 I hX.i_rl hX.i_hd hX.i_ot hX.i_pt hX.i_it hJ hR with ⟨n, r, I1, I2, e1, e2, e3, hR2⟩ | ⟨n, r, I2, e1, e2, e3, hR2⟩ | ⟨n, r, I2, e1, e2, e3, hR2⟩ | ⟨n, r, I2, e1, e2, e3, hR2⟩
  · refine ⟨0, r, _, (I2, (outJ X.1 r.toInt64, X.2)), _, _, ?_, ?_, lr_differ (by decide) (by decide) (by decide) (ef_Eng_differ hX e1), ef_Mod_differ (X := (outJ X.1 r.toInt64, X.2)) (mx_out hM) e2, ef_Mod_thrown (X := (outJ X.1 r.toInt64, X.2)) (I := I2) (mx_out hM) (congrArg some e3), fun _ => outJ_s (J := X.1) (x := r.toInt64), rl, hd, ot, pt, it, ex_out hX, mx_out hM, jok_out hJ, hR2⟩ <;> decide
  · refine ⟨1, r, _, (I2, X), _, _, ?_, ?_, lt_differ_IAE (by decide) (et_Eng_differ hX e1), ef_Mod_differ hM e2, ef_Mod_thrown (I := I2) hM (congrArg some e3), fun q => absurd q (by decide), rl, hd, ot, pt, it, hX, hM, hJ, hR2⟩ <;> decide
  · refine ⟨2, r, _, (I2, X), _, _, ?_, ?_, lt_differ_ISE (by decide) (et_Eng_differ hX e1), ef_Mod_differ hM e2, ef_Mod_thrown (I := I2) hM (congrArg some e3), fun q => absurd q (by decide), rl, hd, ot, pt, it, hX, hM, hJ, hR2⟩ <;> decide
  · refine ⟨3, r, _, (I2, X), _, _, ?_, ?_, lt_differ_UOE (by decide) (et_Eng_differ hX e1), ef_Mod_differ hM e2, ef_Mod_thrown (I := I2) hM (congrArg some e3), fun q => absurd q (by decide), rl, hd, ot, pt, it, hX, hM, hJ, hR2⟩ <;> decide
def Ma_witness (Rl : RelT) : Prop := ∀ (a0 : Int32) (t : Nat) (_ : t < 512) (rl hd ot pt it : Nat) (J : JM) (I : IM), isPol rl → isMch hd → isMch ot → isPol pt → isMch it → JOK J → Rl t rl hd ot pt it I → (∃ (n : Nat) (r : Int32) (I2 : IM), f_Eng_witness a0 I = some r ∧ f_Mod_witness a0 I = some (r, I2) ∧ I2 MO 0 = 0 ∧ Rl (t + 1) rl hd ot pt it I2) ∨ (∃ (n : Nat) (r : Int32) (I2 : IM), t_Eng_witness a0 I = some 1 ∧ f_Mod_witness a0 I = some (r, I2) ∧ I2 MO 0 = 1 ∧ Rl (t + 1) rl hd ot pt it I2) ∨ (∃ (n : Nat) (r : Int32) (I2 : IM), t_Eng_witness a0 I = some 4 ∧ f_Mod_witness a0 I = some (r, I2) ∧ I2 MO 0 = 2 ∧ Rl (t + 1) rl hd ot pt it I2)
set_option maxRecDepth 20000 in
theorem do_witness {Δ : Dx} {Rl : RelT} (h : Ma_witness Rl) : Do_witness Δ (Sx Δ Rl) := by
  intro a0 t ht σ hS
  obtain ⟨I, X⟩ := σ
  obtain ⟨rl, hd, ot, pt, it, hX, hM, hJ, hR⟩ := hS
  rcases h a0 t ht rl hd ot pt it X.1 I hX.i_rl hX.i_hd hX.i_ot hX.i_pt hX.i_it hJ hR with ⟨n, r, I2, e1, e2, e3, hR2⟩ | ⟨n, r, I2, e1, e2, e3, hR2⟩ | ⟨n, r, I2, e1, e2, e3, hR2⟩
  · refine ⟨0, r, _, (I2, (outJ X.1 r.toInt64, X.2)), _, _, ?_, ?_, lr_witness (by decide) (by decide) (by decide) (ef_Eng_witness hX e1), ef_Mod_witness (X := (outJ X.1 r.toInt64, X.2)) (mx_out hM) e2, ef_Mod_thrown (X := (outJ X.1 r.toInt64, X.2)) (I := I2) (mx_out hM) (congrArg some e3), fun _ => outJ_s (J := X.1) (x := r.toInt64), rl, hd, ot, pt, it, ex_out hX, mx_out hM, jok_out hJ, hR2⟩ <;> decide
  · refine ⟨1, r, _, (I2, X), _, _, ?_, ?_, lt_witness_IAE (by decide) (et_Eng_witness hX e1), ef_Mod_witness hM e2, ef_Mod_thrown (I := I2) hM (congrArg some e3), fun q => absurd q (by decide), rl, hd, ot, pt, it, hX, hM, hJ, hR2⟩ <;> decide
  · refine ⟨2, r, _, (I2, X), _, _, ?_, ?_, lt_witness_ISE (by decide) (et_Eng_witness hX e1), ef_Mod_witness hM e2, ef_Mod_thrown (I := I2) hM (congrArg some e3), fun q => absurd q (by decide), rl, hd, ot, pt, it, hX, hM, hJ, hR2⟩ <;> decide
def Ma_twin (Rl : RelT) : Prop := ∀ (t : Nat) (_ : t < 512) (rl hd ot pt it : Nat) (J : JM) (I : IM), isPol rl → isMch hd → isMch ot → isPol pt → isMch it → JOK J → Rl t rl hd ot pt it I → ∃ (n : Nat) (I1 I2 : IM), f_Eng_twin hd ot I = some I1 ∧ f_Mod_twin n I1 = some I2 ∧ Rl (t + 1) rl hd ot pt it I2
theorem do_twin {Δ : Dx} {Rl : RelT} (h : Ma_twin Rl) : Do_twin Δ (Sx Δ Rl) := by
  intro t ht σ hS
  obtain ⟨I, X⟩ := σ
  obtain ⟨rl, hd, ot, pt, it, hX, hM, hJ, hR⟩ := hS
  obtain ⟨n, I1, I2, e1, e2, h1⟩ := h t ht rl hd ot pt it X.1 I hX.i_rl hX.i_hd hX.i_ot hX.i_pt hX.i_it hJ hR
  exact ⟨_, (I2, X), _, _, by decide, by decide, ef_Eng_twin hX e1, ef_Mod_twin hM e2, rl, hd, ot, pt, it, hX, hM, hJ, h1⟩
def Ma_swap (Rl : RelT) : Prop := ∀ (t : Nat) (_ : t < 512) (rl hd ot pt it : Nat) (J : JM) (I : IM), isPol rl → isMch hd → isMch ot → isPol pt → isMch it → JOK J → Rl t rl hd ot pt it I → ∃ (n : Nat) (I2 : IM), f_Mod_swap n I = some I2 ∧ Rl (t + 1) rl ot hd pt it I2
theorem do_swap {Δ : Dx} {Rl : RelT} (h : Ma_swap Rl) : Do_swap Δ (Sx Δ Rl) := by
  intro t ht σ hS
  obtain ⟨I, X⟩ := σ
  obtain ⟨rl, hd, ot, pt, it, hX, hM, hJ, hR⟩ := hS
  obtain ⟨n, I2, e2, h1⟩ := h t ht rl hd ot pt it X.1 I hX.i_rl hX.i_hd hX.i_ot hX.i_pt hX.i_it hJ hR
  exact ⟨_, (I2, swpX Δ X hd ot), _, _, by decide, by decide, ef_Eng_swap hX, ef_Mod_swap (mx_setR (mx_setR hM (by decide)) (by decide)) e2, rl, ot, hd, pt, it, ex_swpX hX, mx_setR (mx_setR hM (by decide)) (by decide), hJ, h1⟩
def Ma_unlike (Rl : RelT) : Prop := ∀ (a0 : Int32) (t : Nat) (_ : t < 512) (rl hd ot pt it : Nat) (J : JM) (I : IM), isPol rl → isMch hd → isMch ot → isPol pt → isMch it → JOK J → Rl t rl hd ot pt it I → (∃ (n : Nat) (r : Int32) (I2 : IM), f_Eng_unlike n hd ot a0 I = some r ∧ f_Mod_unlike n a0 I = some (r, I2) ∧ I2 MO 0 = 0 ∧ Rl (t + 1) rl hd ot pt it I2) ∨ (∃ (n : Nat) (r : Int32) (I2 : IM), t_Eng_unlike n hd ot a0 I = some 1 ∧ f_Mod_unlike n a0 I = some (r, I2) ∧ I2 MO 0 = 1 ∧ Rl (t + 1) rl hd ot pt it I2)
set_option maxRecDepth 20000 in
theorem do_unlike {Δ : Dx} {Rl : RelT} (h : Ma_unlike Rl) : Do_unlike Δ (Sx Δ Rl) := by
  intro a0 t ht σ hS
  obtain ⟨I, X⟩ := σ
  obtain ⟨rl, hd, ot, pt, it, hX, hM, hJ, hR⟩ := hS
  rcases h a0 t ht rl hd ot pt it X.1 I hX.i_rl hX.i_hd hX.i_ot hX.i_pt hX.i_it hJ hR with ⟨n, r, I2, e1, e2, e3, hR2⟩ | ⟨n, r, I2, e1, e2, e3, hR2⟩
  · refine ⟨0, r, _, (I2, (outJ X.1 r.toInt64, X.2)), _, _, ?_, ?_, lr_unlike (by decide) (by decide) (by decide) (ef_Eng_unlike hX e1), ef_Mod_unlike (X := (outJ X.1 r.toInt64, X.2)) (mx_out hM) e2, ef_Mod_thrown (X := (outJ X.1 r.toInt64, X.2)) (I := I2) (mx_out hM) (congrArg some e3), fun _ => outJ_s (J := X.1) (x := r.toInt64), rl, hd, ot, pt, it, ex_out hX, mx_out hM, jok_out hJ, hR2⟩ <;> decide
  · refine ⟨1, r, _, (I2, X), _, _, ?_, ?_, lt_unlike_IAE (by decide) (et_Eng_unlike hX e1), ef_Mod_unlike hM e2, ef_Mod_thrown (I := I2) hM (congrArg some e3), fun q => absurd q (by decide), rl, hd, ot, pt, it, hX, hM, hJ, hR2⟩ <;> decide
/-- all that is owed of the functions -/
def MaAll (Rl : RelT) : Prop := Ma_put Rl ∧ Ma_end Rl ∧ Ma_policy Rl ∧ Ma_image Rl ∧ Ma_codeOf Rl ∧ Ma_begin Rl ∧ Ma_code Rl ∧ Ma_word Rl ∧ Ma_register Rl ∧ Ma_input Rl ∧ Ma_run Rl ∧ Ma_state Rl ∧ Ma_registerOf Rl ∧ Ma_wordOf Rl ∧ Ma_output Rl ∧ Ma_pairOf Rl ∧ Ma_names Rl ∧ Ma_blame Rl ∧ Ma_journal Rl ∧ Ma_count Rl ∧ Ma_cacheOf Rl ∧ Ma_keep Rl ∧ Ma_differ Rl ∧ Ma_witness Rl ∧ Ma_twin Rl ∧ Ma_swap Rl ∧ Ma_unlike Rl
theorem do_all {Δ : Dx} {Rl : RelT} (hm : ∀ t rl hd ot pt it I, Rl t rl hd ot pt it I → Rl (t + 1) rl hd ot pt it I) (hl : Do_listing Δ (Sx Δ Rl)) (h : MaAll Rl) : DoAll Δ (Sx Δ Rl) := by
  obtain ⟨h_put, h_end, h_policy, h_image, h_codeOf, h_begin, h_code, h_word, h_register, h_input, h_run, h_state, h_registerOf, h_wordOf, h_output, h_pairOf, h_names, h_blame, h_journal, h_count, h_cacheOf, h_keep, h_differ, h_witness, h_twin, h_swap, h_unlike⟩ := h
  refine ⟨fun t σ hS => ?_, do_put h_put, do_end h_end, do_policy h_policy, do_image h_image, hl, do_codeOf h_codeOf, do_begin h_begin, do_code h_code, do_word h_word, do_register h_register, do_input h_input, do_run h_run, do_state h_state, do_registerOf h_registerOf, do_wordOf h_wordOf, do_output h_output, do_pairOf h_pairOf, do_names h_names, do_blame h_blame, do_journal h_journal, do_count h_count, do_cacheOf h_cacheOf, do_keep h_keep, do_differ h_differ, do_witness h_witness, do_twin h_twin, do_swap h_swap, do_unlike h_unlike⟩
  obtain ⟨rl, hd, ot, pt, it, hX, hM, hJ, hR⟩ := hS
  exact ⟨rl, hd, ot, pt, it, hX, hM, hJ, hm _ _ _ _ _ _ _ hR⟩
