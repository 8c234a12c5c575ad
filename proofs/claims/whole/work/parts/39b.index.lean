/-! String.indexOf of a char, and the constant that the class asks -/
def bs_sg : List Int32 := [58, 59, 61, 60, 124, 38, 94, 43, 45, 33, 126, 40, 41, 44, 63]
theorem sr_sg : Cond.stringRef "WardEngine$Reader" 90 ":;=<|&^+-!~(),?" ∈ lw_tbl := List.mem_append_right _ (List.mem_of_getElem? (i := 566) (by decide +kernel))
theorem sf_sg_0 : FLc[536]? = some (Cond.exactly (.string "WardEngine$Reader" 90) "java/lang/String") := by decide +kernel
theorem sf_sg_4 : ∀ j, j < bs_sg.length → FLc[536 + 4 + j]? = some (Cond.eq (.elem (.field (.string "WardEngine$Reader" 90) "java/lang/String" "value" "[B") (.int (Int32.ofNat j))) (.int (bs_sg.getD j 0))) := by decide +kernel
theorem sg_sg {Δ : Dx} {U : State} (h : Kx Δ U) : Sg Δ (strA Δ "WardEngine$Reader" 90) bs_sg := sg_of h (by decide) sf_sg_0 (by decide +kernel) (by decide +kernel) (by decide +kernel) sf_sg_4
/-- the place of the first that is b -/
def ixL : List Int32 → Int32 → Nat → Int32
  | [], _, _ => -1
  | x :: l, b, j => if x = b then nI j else ixL l b (j + 1)
theorem ev_Lat_canEncode {Δ : Dx} {n : Nat} {σ : St} {c : Int32} (h0 : ¬ c < 0) (h1 : ¬ 255 < c) : EvN Δ 0 m_Lat_canEncode_I n [.int c] σ (some (.int 1)) n σ 0 0 := by
  refine ev_of (by decide) (Nat.le_of_ble_eq_true rfl) (fun Γ hk hR hT => ?_)
  refine g_iload_n (pc := 0) (dd d_Lat_canEncode_I 0 rfl) rfl ?_
  refine g_iflt (pc := 1) (tgt := 15) (dd d_Lat_canEncode_I 1 rfl) (by decide) (fun q => absurd q h0) (fun _ => ?_)
  refine g_iload_n (pc := 4) (dd d_Lat_canEncode_I 2 rfl) rfl ?_
  refine g_sipush (pc := 5) (v := 255) (dd d_Lat_canEncode_I 3 rfl) (by decide) ?_
  refine g_icmpgt (pc := 8) (tgt := 15) (dd d_Lat_canEncode_I 4 rfl) (by decide) (fun q => absurd q h1) (fun _ => ?_)
  refine g_iconst (pc := 11) (v := 1) (dd d_Lat_canEncode_I 5 rfl) (by decide) ?_
  refine g_goto (pc := 12) (tgt := 16) (dd d_Lat_canEncode_I 6 rfl) (by decide) ?_
  exact g_zret (pc := 16) rfl (by decide) (dd d_Lat_canEncode_I 8 rfl) hT
theorem ev_Lat_indexOfChar {Δ : Dx} {n : Nat} {σ : St} {t : Nat} {bs : List Int32} {c : Int32} (hl : bs.length < 2 ^ 31) (h3 : va_T .byte t bs.length (fun j => .int (bs.getD j 0)) Δ.A Δ.s0 Δ.s0.heap) : EvN Δ 0 m_Lat_indexOfChar n [.ref t, .int c, .int 0, .int (nI bs.length)] σ (some (.int (ixL bs c.toInt8.toInt32 0))) n σ 0 0 := by
  refine ev_of (by decide) (Nat.le_of_ble_eq_true rfl) (fun Γ hk hR hT => ?_)
  change GG Δ m_Lat_indexOfChar Γ n 0 0 σ 0 [some (.ref t), some (.int c), some (.int 0), some (.int (nI bs.length)), none, none] []
  refine g_iload_n (pc := 0) (dd d_Lat_indexOfChar 0 rfl) rfl ?_
  refine g_i2b (pc := 1) (dd d_Lat_indexOfChar 1 rfl) ?_
  refine g_istore (pc := 2) (dd d_Lat_indexOfChar 2 rfl) (by decide) ?_
  refine g_iload_n (pc := 4) (dd d_Lat_indexOfChar 3 rfl) rfl ?_
  refine g_istore (pc := 5) (dd d_Lat_indexOfChar 4 rfl) (by decide) ?_
  have K : (ixL bs c.toInt8.toInt32 0 = ixL (bs.drop 0) c.toInt8.toInt32 0) → GG Δ m_Lat_indexOfChar Γ n 0 0 σ 7 [some (.ref t), some (.int c), some (.int 0), some (.int (nI bs.length)), some (.int c.toInt8.toInt32), some (.int (nI 0))] [] := by
    refine down bs.length (P := fun k => (ixL bs c.toInt8.toInt32 0 = ixL (bs.drop k) c.toInt8.toInt32 k) → GG Δ m_Lat_indexOfChar Γ n 0 0 σ 7 [some (.ref t), some (.int c), some (.int 0), some (.int (nI bs.length)), some (.int c.toInt8.toInt32), some (.int (nI k))] []) ?_ ?_
    · intro e
      rw [List.drop_length] at e
      rw [e] at hT
      refine g_iload (pc := 7) (dd d_Lat_indexOfChar 5 rfl) rfl ?_
      refine g_iload_n (pc := 9) (dd d_Lat_indexOfChar 6 rfl) rfl ?_
      refine g_icmpge (pc := 10) (tgt := 31) (dd d_Lat_indexOfChar 7 rfl) (by decide) (fun _ => ?_) (fun q => absurd (Int32.le_refl _) q)
      refine g_iconst (pc := 31) (v := (-1)) (dd d_Lat_indexOfChar 17 rfl) (by decide) ?_
      exact g_iret (pc := 32) rfl (dd d_Lat_indexOfChar 18 rfl) hT
    · intro k hkn ih e
      rw [List.drop_eq_getElem_cons hkn, ixL] at e
      refine g_iload (pc := 7) (dd d_Lat_indexOfChar 5 rfl) rfl ?_
      refine g_iload_n (pc := 9) (dd d_Lat_indexOfChar 6 rfl) rfl ?_
      refine g_icmpge (pc := 10) (tgt := 31) (dd d_Lat_indexOfChar 7 rfl) (by decide) (fun q => absurd q (nI_ge hkn hl)) (fun _ => ?_)
      refine g_aload_n (pc := 13) (dd d_Lat_indexOfChar 8 rfl) rfl ?_
      refine g_iload (pc := 14) (dd d_Lat_indexOfChar 9 rfl) rfl ?_
      refine g_oldb (pc := 16) (v := .int bs[k]) (dd d_Lat_indexOfChar 10 rfl) h3 (nI_in hkn hl) (by rw [nI_clamp (by omega), List.getD_eq_getElem?_getD, List.getElem?_eq_getElem hkn]; rfl) ?_
      refine g_iload (pc := 17) (dd d_Lat_indexOfChar 11 rfl) rfl ?_
      refine g_icmpne (pc := 19) (tgt := 25) (dd d_Lat_indexOfChar 12 rfl) (by decide) (fun q => ?_) (fun q => ?_)
      · rw [if_neg q] at e
        refine g_iincW (pc := 25) (w := 1) (dd d_Lat_indexOfChar 15 rfl) rfl (by decide) (by decide) ?_
        refine g_goto (pc := 28) (tgt := 7) (dd d_Lat_indexOfChar 16 rfl) (by decide) ?_
        have := ih e
        rw [nI_succ] at this
        exact this
      · rw [if_pos q] at e
        rw [e] at hT
        refine g_iload (pc := 22) (dd d_Lat_indexOfChar 13 rfl) rfl ?_
        exact g_iret (pc := 24) rfl (dd d_Lat_indexOfChar 14 rfl) hT
  exact K rfl
theorem ev_Lat_indexOf {Δ : Dx} {n : Nat} {σ : St} {t : Nat} {bs : List Int32} {c : Int32} (h0 : ¬ c < 0) (h1 : ¬ 255 < c) (hl : bs.length < 2 ^ 31) (hp : 0 < bs.length) (h3 : va_T .byte t bs.length (fun j => .int (bs.getD j 0)) Δ.A Δ.s0 Δ.s0.heap) : EvN Δ 1 m_Lat_indexOf n [.ref t, .int c, .int 0, .int (nI bs.length)] σ (some (.int (ixL bs c.toInt8.toInt32 0))) n σ 0 0 := by
  refine ev_of (by decide) (Nat.le_of_ble_eq_true rfl) (fun Γ hk hR hT => ?_)
  change GG Δ m_Lat_indexOf Γ n 0 0 σ 0 [some (.ref t), some (.int c), some (.int 0), some (.int (nI bs.length))] []
  refine g_iload_n (pc := 0) (dd d_Lat_indexOf 0 rfl) rfl ?_
  refine g_callS (pc := 1) (dd d_Lat_indexOf 1 rfl) s_Lat_88 (ev_Lat_canEncode h0 h1) rfl (by rw [hk]; decide) (Nat.le_of_ble_eq_true rfl) ⟨Nat.zero_le _, Nat.zero_le _⟩ rfl ?_
  refine g_ifne (pc := 4) (tgt := 9) (dd d_Lat_indexOf 2 rfl) (by decide) (fun _ => ?_) (fun q => absurd q (by decide))
  refine g_iload_n (pc := 9) (dd d_Lat_indexOf 5 rfl) rfl ?_
  refine g_iconst (pc := 10) (v := 0) (dd d_Lat_indexOf 6 rfl) (by decide) ?_
  refine g_mmax (pc := 11) (dd d_Lat_indexOf 7 rfl) s_Lat_92.2.1 (by omega) (Nat.le_of_ble_eq_true rfl) (Nat.zero_le _) (Nat.zero_le _) ?_
  rw [show maxI 0 0 = 0 from by decide]
  refine g_istore_n (pc := 14) (dd d_Lat_indexOf 8 rfl) (by decide) ?_
  refine g_iload_n (pc := 15) (dd d_Lat_indexOf 9 rfl) rfl ?_
  refine g_aload_n (pc := 16) (dd d_Lat_indexOf 10 rfl) rfl ?_
  refine g_oldlen (pc := 17) (v := nI bs.length) (dd d_Lat_indexOf 11 rfl) h3 rfl ?_
  refine g_mminI (pc := 18) (dd d_Lat_indexOf 12 rfl) s_Lat_38.2.1 (by omega) (Nat.le_of_ble_eq_true rfl) (Nat.zero_le _) (Nat.zero_le _) ?_
  rw [show minI (nI bs.length) (nI bs.length) = nI bs.length from by unfold minI; split <;> rfl]
  refine g_istore_n (pc := 21) (dd d_Lat_indexOf 13 rfl) (by decide) ?_
  refine g_iload_n (pc := 22) (dd d_Lat_indexOf 14 rfl) rfl ?_
  refine g_iload_n (pc := 23) (dd d_Lat_indexOf 15 rfl) rfl ?_
  refine g_icmplt (pc := 24) (tgt := 29) (dd d_Lat_indexOf 16 rfl) (by decide) (fun _ => ?_) (fun q => absurd (nI_lt hp hl) q)
  refine g_aload_n (pc := 29) (dd d_Lat_indexOf 19 rfl) rfl ?_
  refine g_iload_n (pc := 30) (dd d_Lat_indexOf 20 rfl) rfl ?_
  refine g_iload_n (pc := 31) (dd d_Lat_indexOf 21 rfl) rfl ?_
  refine g_iload_n (pc := 32) (dd d_Lat_indexOf 22 rfl) rfl ?_
  refine g_callS (pc := 33) (dd d_Lat_indexOf 23 rfl) s_Lat_95 (ev_Lat_indexOfChar hl h3) rfl (by rw [hk]; decide) (Nat.le_of_ble_eq_true rfl) ⟨Nat.zero_le _, Nat.zero_le _⟩ rfl ?_
  exact g_iret (pc := 36) rfl (dd d_Lat_indexOf 24 rfl) hT
theorem ev_Str_indexOf_II {Δ : Dx} {n : Nat} {σ : St} {a : Nat} {bs : List Int32} {c : Int32} (h0 : ¬ c < 0) (h1 : ¬ 255 < c) (hp : 0 < bs.length) (hg : Sg Δ a bs) : EvN Δ 2 m_Str_indexOf_II n [.ref a, .int c, .int 0] σ (some (.int (ixL bs c.toInt8.toInt32 0))) n σ 0 0 := by
  obtain ⟨hl, v, e0, e1, e2, e3⟩ := id hg
  refine ev_of (by decide) (Nat.le_of_ble_eq_true rfl) (fun Γ hk hR hT => ?_)
  change GG Δ m_Str_indexOf_II Γ n 0 0 σ 0 [some (.ref a), some (.int c), some (.int 0)] []
  refine g_aload_n (pc := 0) (dd d_Str_indexOf_II 0 rfl) rfl ?_
  refine g_callStr (pc := 1) (dd d_Str_indexOf_II 1 rfl) v_Str_492 hg (ev_Str_isLatin1 hg) rfl (by rw [hk]; decide) (Nat.le_of_ble_eq_true rfl) ⟨Nat.zero_le _, Nat.zero_le _⟩ rfl ?_
  refine g_ifeq (pc := 4) (tgt := 23) (dd d_Str_indexOf_II 2 rfl) (by decide) (fun q => absurd q (by decide)) (fun _ => ?_)
  refine g_aload_n (pc := 7) (dd d_Str_indexOf_II 3 rfl) rfl ?_
  refine g_oldf (pc := 8) (dd d_Str_indexOf_II 4 rfl) e2 fs_Str_9 ?_
  refine g_iload_n (pc := 11) (dd d_Str_indexOf_II 5 rfl) rfl ?_
  refine g_iload_n (pc := 12) (dd d_Str_indexOf_II 6 rfl) rfl ?_
  refine g_aload_n (pc := 13) (dd d_Str_indexOf_II 7 rfl) rfl ?_
  refine g_callStr (pc := 14) (dd d_Str_indexOf_II 8 rfl) v_Str_505 hg (ev_Str_length hg) rfl (by rw [hk]; decide) (Nat.le_of_ble_eq_true rfl) ⟨Nat.zero_le _, Nat.zero_le _⟩ rfl ?_
  refine g_callS (pc := 17) (dd d_Str_indexOf_II 9 rfl) s_Str_637 (ev_Lat_indexOf h0 h1 hl hp e3) rfl (by rw [hk]; decide) (Nat.le_of_ble_eq_true rfl) ⟨Nat.zero_le _, Nat.zero_le _⟩ rfl ?_
  refine g_goto (pc := 20) (tgt := 36) (dd d_Str_indexOf_II 10 rfl) (by decide) ?_
  exact g_iret (pc := 36) rfl (dd d_Str_indexOf_II 18 rfl) hT
theorem ev_Str_indexOf {Δ : Dx} {n : Nat} {σ : St} {a : Nat} {bs : List Int32} {c : Int32} (h0 : ¬ c < 0) (h1 : ¬ 255 < c) (hp : 0 < bs.length) (hg : Sg Δ a bs) : EvN Δ 3 m_Str_indexOf_I n [.ref a, .int c] σ (some (.int (ixL bs c.toInt8.toInt32 0))) n σ 0 0 := by
  refine ev_of (by decide) (Nat.le_of_ble_eq_true rfl) (fun Γ hk hR hT => ?_)
  change GG Δ m_Str_indexOf_I Γ n 0 0 σ 0 [some (.ref a), some (.int c)] []
  refine g_aload_n (pc := 0) (dd d_Str_indexOf_I 0 rfl) rfl ?_
  refine g_iload_n (pc := 1) (dd d_Str_indexOf_I 1 rfl) rfl ?_
  refine g_iconst (pc := 2) (v := 0) (dd d_Str_indexOf_I 2 rfl) (by decide) ?_
  refine g_callStr (pc := 3) (dd d_Str_indexOf_I 3 rfl) v_Str_633 hg (ev_Str_indexOf_II h0 h1 hp hg) rfl (by rw [hk]; decide) (Nat.le_of_ble_eq_true rfl) ⟨Nat.zero_le _, Nat.zero_le _⟩ rfl ?_
  exact g_iret (pc := 6) rfl (dd d_Str_indexOf_I 4 rfl) hT
