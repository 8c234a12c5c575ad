/-! a string is added -/
theorem g_ifnn {Δ : Dx} {mi : MI} {Γ : Cx} {n k c : Nat} {σ : St} {pc : Nat} {lv : List (Option Value)} {rest : List Value} {x : Nat} {off : Int} {tgt : Nat} (hdg : decode mi.2.1 pc = .ok (.ifnonnull off, 3)) (ht : (pc : Int) + off = (tgt : Int)) (kk : GG Δ mi Γ n k c σ tgt lv rest) : GG Δ mi Γ n k c σ pc lv (.ref x :: rest) := fun ok H locs ls hP hS hl => lv_ifnonnull ok.1 ok.2.1 hdg ht (kk ok H locs ls hP hS hl)
theorem n_Str_212 : Cond.methodLink "java/lang/String" 212 arraycopyName ∈ tb := tk5 115 rfl rfl
theorem ev_getBytes {Δ : Dx} {σ : St} {a i : Nat} {bs : List Int32} (hg : Sg Δ a bs) (hfit : ∀ k, k < bs.length → fits .byte (.int (bs.getD k 0)) = true) (hV : Vb σ) (hi : i + bs.length ≤ vL σ) (hL : vL σ ≤ 70) : EvN Δ 1 m_Str_getBytes NN [.ref a, .ref (vA Δ σ), .int (nI i), .int 0] σ none NN (vS σ (va_cpy (fun j => bs.getD j 0) (vF σ) 0 i bs.length)) 0 0 := by
  obtain ⟨hl, v, h0, h1, h2, h3⟩ := id hg
  refine ev_of (by decide) (Nat.le_of_ble_eq_true rfl) (fun Γ hk hR hT => ?_)
  refine g_aload_n (pc := 0) (dd d_Str_getBytes 0 rfl) rfl ?_
  refine g_callStr (pc := 1) (dd d_Str_getBytes 1 rfl) v_Str_335 hg (ev_Str_coder hg) rfl (by rw [hk]; decide) (Nat.le_of_ble_eq_true rfl) ⟨Nat.zero_le _, Nat.zero_le _⟩ rfl ?_
  refine g_iload_n (pc := 4) (dd d_Str_getBytes 2 rfl) rfl ?_
  refine g_icmpne (pc := 5) (tgt := 28) (dd d_Str_getBytes 3 rfl) (by decide) (fun q => absurd rfl q) (fun _ => ?_)
  refine g_aload_n (pc := 8) (dd d_Str_getBytes 4 rfl) rfl ?_
  refine g_oldf (pc := 9) (dd d_Str_getBytes 5 rfl) h2 fs_Str_9 ?_
  refine g_iconst (pc := 12) (v := 0) (dd d_Str_getBytes 6 rfl) (by decide) ?_
  refine g_aload_n (pc := 13) (dd d_Str_getBytes 7 rfl) rfl ?_
  refine g_iload_n (pc := 14) (dd d_Str_getBytes 8 rfl) rfl ?_
  refine g_iload_n (pc := 15) (dd d_Str_getBytes 9 rfl) rfl ?_
  refine g_ishl (pc := 16) (dd d_Str_getBytes 10 rfl) ?_
  rw [shl_0]
  refine g_aload_n (pc := 17) (dd d_Str_getBytes 11 rfl) rfl ?_
  refine g_oldf (pc := 18) (dd d_Str_getBytes 12 rfl) h2 fs_Str_9 ?_
  refine g_oldlen (pc := 21) (v := nI bs.length) (dd d_Str_getBytes 13 rfl) h3 rfl ?_
  refine g_copyV (pc := 22) (f := fun j => bs.getD j 0) (dd d_Str_getBytes 14 rfl) n_Str_212 (by rw [hk]; decide) (Nat.le_of_ble_eq_true rfl) rfl h3 hV (by decide) (nI_pos (by omega)) (nI_pos (by omega)) (by rw [nI_clamp (by omega)]; exact Nat.le_of_eq (Nat.zero_add _)) (by rw [nI_clamp (by omega), nI_clamp (by omega)]; exact hi) (fun k hk2 => by
    rw [nI_clamp (by omega)] at hk2
    show fits .byte (.int (bs.getD (0 + k) 0)) = true
    rw [Nat.zero_add]
    exact hfit k hk2) ?_
  rw [nI_clamp (by omega), nI_clamp (by omega), show (0 : Int32).toNatClampNeg = 0 from rfl]
  refine g_goto (pc := 25) (tgt := 43) (dd d_Str_getBytes 15 rfl) (by decide) ?_
  exact g_vret (pc := 43) rfl (dd d_Str_getBytes 25 rfl) hT
theorem ev_inflN {Δ : Dx} {σ : St} {a : Nat} {bs : List Int32} (hg : Sg Δ a bs) (hc : σ.1 55 1 = 0) : EvE Δ 1 m_Asb_inflateIfNeededFor [.ref (Δ.ba + 55), .ref a] σ (fun _ => none) (fun x => x = σ) 0 0 := by
  refine evE_of (by decide) (Nat.le_of_ble_eq_true rfl) (fun Γ hk hR hT => ?_)
  refine g_gets (pc := 0) (dd d_Asb_inflateIfNeededFor 0 rfl) cs_1 cs_2 cs_3 fs_Asb_18 ?_
  refine g_ifeq (pc := 3) (tgt := 21) (dd d_Asb_inflateIfNeededFor 1 rfl) (by decide) (fun q => absurd q (by decide)) (fun _ => ?_)
  refine g_aload_n (pc := 6) (dd d_Asb_inflateIfNeededFor 2 rfl) rfl ?_
  refine g_get (pc := 7) (a := 55) (dd d_Asb_inflateIfNeededFor 3 rfl) f_Asb_22 o55 (fv_coder hc) ?_
  refine g_aload_n (pc := 10) (dd d_Asb_inflateIfNeededFor 4 rfl) rfl ?_
  refine g_callStr (pc := 11) (dd d_Asb_inflateIfNeededFor 5 rfl) v_Asb_40 hg (ev_Str_coder hg) rfl (by rw [hk]; decide) (Nat.le_of_ble_eq_true rfl) ⟨Nat.zero_le _, Nat.zero_le _⟩ rfl ?_
  refine g_icmpeq (pc := 14) (tgt := 21) (dd d_Asb_inflateIfNeededFor 6 rfl) (by decide) (fun _ => ?_) (fun q => absurd rfl q)
  exact g_vretE (pc := 21) rfl (dd d_Asb_inflateIfNeededFor 9 rfl) hT (Nat.le_refl _) (Nat.le_refl _) rfl rfl
theorem ev_putStr {Δ : Dx} {σ : St} {a i : Nat} {bs : List Int32} (hg : Sg Δ a bs) (hfit : ∀ k, k < bs.length → fits .byte (.int (bs.getD k 0)) = true) (hD : DYX Δ σ.2.2) (hc : σ.1 55 1 = 0) (hV : Vb σ) (hi : i + bs.length ≤ vL σ) : EvE Δ 2 m_Asb_putStringAt [.ref (Δ.ba + 55), .int (nI i), .ref a] σ (fun _ => none) (fun x => x = vS σ (va_cpy (fun j => bs.getD j 0) (vF σ) 0 i bs.length)) 0 0 := by
  refine evE_of (by decide) (Nat.le_of_ble_eq_true rfl) (fun Γ hk hR hT => ?_)
  refine g_aload_n (pc := 0) (dd d_Asb_putStringAt 0 rfl) rfl ?_
  refine g_aload_n (pc := 1) (dd d_Asb_putStringAt 1 rfl) rfl ?_
  refine g_callPE (pc := 2) (dd d_Asb_putStringAt 2 rfl) p_Asb_397 (ev_inflN hg hc) rfl (by rw [hk]; decide) (Nat.le_of_ble_eq_true rfl) ⟨Nat.zero_le _, Nat.zero_le _⟩ rfl (fun x hx => ?_)
  subst hx
  refine g_aload_n (pc := 5) (dd d_Asb_putStringAt 3 rfl) rfl ?_
  refine g_aload_n (pc := 6) (dd d_Asb_putStringAt 4 rfl) rfl ?_
  refine g_getr (pc := 7) (a := 55) (dd d_Asb_putStringAt 5 rfl) f_Asb_15 o55 rfl (DYX_v hD) ?_
  refine g_iload_n (pc := 10) (dd d_Asb_putStringAt 6 rfl) rfl ?_
  refine g_aload_n (pc := 11) (dd d_Asb_putStringAt 7 rfl) rfl ?_
  refine g_get (pc := 12) (a := 55) (dd d_Asb_putStringAt 8 rfl) f_Asb_22 o55 (fv_coder hc) ?_
  refine g_callStr (pc := 15) (dd d_Asb_putStringAt 9 rfl) v_Asb_399 hg (ev_getBytes hg hfit hV hi (by have := DYX_L hD; omega)) rfl (by rw [hk]; decide) (Nat.le_of_ble_eq_true rfl) ⟨Nat.zero_le _, Nat.zero_le _⟩ rfl ?_
  exact g_vretE (pc := 18) rfl (dd d_Asb_putStringAt 10 rfl) hT (Nat.le_refl _) (Nat.le_refl _) rfl rfl
/-- append(String) -/
theorem ev_appS {Δ : Dx} {σ : St} {l bs : List Int32} {a : Nat} (hg : Sg Δ a bs) (hfit : ∀ k, k < bs.length → fits .byte (.int (bs.getD k 0)) = true) (hB : Bk Δ σ l) (hl : (l ++ bs).length ≤ 70) (hs : bs.length ≤ 18) : EvE Δ 4 m_Asb_append_S [.ref (Δ.ba + 55), .ref a] σ (fun _ => some (.ref (Δ.ba + 55))) (lAP Δ σ (l ++ bs)) (cst σ (l ++ bs).length) (70 * cst σ (l ++ bs).length) := by
  obtain ⟨hD, hV, hc, hn, hle, hF⟩ := id hB
  have hL := DYX_L hD
  have hlen : (l ++ bs).length = l.length + bs.length := List.length_append
  refine evE_of (by decide) (Nat.le_of_ble_eq_true rfl) (fun Γ hk hR hT => ?_)
  refine g_aload_n (pc := 0) (dd d_Asb_append_S 0 rfl) rfl ?_
  refine g_ifnn (pc := 1) (tgt := 9) (dd d_Asb_append_S 1 rfl) (by decide) ?_
  refine g_aload_n (pc := 9) (dd d_Asb_append_S 5 rfl) rfl ?_
  refine g_callStr (pc := 10) (dd d_Asb_append_S 6 rfl) v_Asb_32 hg (ev_Str_length hg) rfl (by rw [hk]; decide) (Nat.le_of_ble_eq_true rfl) ⟨Nat.zero_le _, Nat.zero_le _⟩ rfl ?_
  refine g_istore_n (pc := 13) (dd d_Asb_append_S 7 rfl) (by decide) ?_
  refine g_aload_n (pc := 14) (dd d_Asb_append_S 8 rfl) rfl ?_
  refine g_aload_n (pc := 15) (dd d_Asb_append_S 9 rfl) rfl ?_
  refine g_get (pc := 16) (a := 55) (dd d_Asb_append_S 10 rfl) f_Asb_79 o55 (fv_count hn) ?_
  refine g_iload_n (pc := 19) (dd d_Asb_append_S 11 rfl) rfl ?_
  refine g_iadd (pc := 20) (dd d_Asb_append_S 12 rfl) ?_
  rw [nI_add, ← hlen]
  refine g_callPE (pc := 21) (dd d_Asb_append_S 13 rfl) p_Asb_100 (ev_ensure (mn := (l ++ bs).length) hD hV hc (by omega) (by omega)) rfl (by rw [hk]; decide) (Nat.le_of_ble_eq_true rfl) ⟨by rw [hR]; show 0 + 0 + cst σ (l ++ bs).length ≤ cst σ (l ++ bs).length; omega, by rw [hR]; show 0 + 0 + 70 * cst σ (l ++ bs).length ≤ 70 * cst σ (l ++ bs).length; omega⟩ rfl (fun x hx => ?_)
  obtain ⟨g1, g2, g3, g4, g5, g6, g7⟩ := id hx
  have xc : x.1 55 1 = 0 := by rw [g5]; exact hc
  have xn : x.1 55 3 = nI l.length := by rw [g5]; exact hn
  refine g_aload_n (pc := 24) (dd d_Asb_append_S 14 rfl) rfl ?_
  refine g_aload_n (pc := 25) (dd d_Asb_append_S 15 rfl) rfl ?_
  refine g_get (pc := 26) (a := 55) (dd d_Asb_append_S 16 rfl) f_Asb_79 o55 (fv_count xn) ?_
  refine g_aload_n (pc := 29) (dd d_Asb_append_S 17 rfl) rfl ?_
  refine g_callPE (pc := 30) (dd d_Asb_append_S 18 rfl) p_Asb_208 (ev_putStr hg hfit g2 xc g3 (by omega)) rfl (by rw [hk]; decide) (Nat.le_of_ble_eq_true rfl) ⟨by rw [hR]; show 0 + 0 + cst σ (l ++ bs).length + 0 ≤ cst σ (l ++ bs).length; omega, by rw [hR]; show 0 + 0 + 70 * cst σ (l ++ bs).length + 0 ≤ 70 * cst σ (l ++ bs).length; omega⟩ rfl (fun y hy => ?_)
  have hf : ∀ k, fits .byte (.int (va_cpy (fun j => bs.getD j 0) (vF x) 0 l.length bs.length k)) = true := cpy_fit (fun k hk => by rw [Nat.zero_add]; exact hfit k hk) (vF_fit g3)
  have y3 : y.2.2 = x.2.2 := by rw [hy, vS_3]
  have yn : y.1 55 3 = nI l.length := by rw [hy, vS_1 (by decide)]; exact xn
  refine g_aload_n (pc := 33) (dd d_Asb_append_S 19 rfl) rfl ?_
  refine g_dup (pc := 34) (dd d_Asb_append_S 20 rfl) rfl ?_
  refine g_get (pc := 35) (a := 55) (dd d_Asb_append_S 21 rfl) f_Asb_79 o55 (fv_count yn) ?_
  refine g_iload_n (pc := 38) (dd d_Asb_append_S 22 rfl) rfl ?_
  refine g_iadd (pc := 39) (dd d_Asb_append_S 23 rfl) ?_
  rw [nI_add, ← hlen]
  refine g_puti (pc := 40) (a := 55) (j := 3) (dd d_Asb_append_S 24 rfl) f_Asb_79 fm_Sbd_3 o55 rfl ?_
  refine g_aload_n (pc := 43) (dd d_Asb_append_S 25 rfl) rfl ?_
  have yb : Bf x y := by rw [hy]; exact Bf.vS
  have yv : Vb y := by rw [hy]; exact vS_b hf g3
  have yl : vL y = vL x := by rw [hy]; exact vS_L
  have yf : vF y = va_cpy (fun j => bs.getD j 0) (vF x) 0 l.length bs.length := by rw [hy]; exact vS_F hf
  refine g_aretE (pc := 44) rfl (Or.inl ⟨_, rfl⟩) (dd d_Asb_append_S 26 rfl) hT (by show 0 + 0 + cst σ (l ++ bs).length + 0 ≤ _; omega) (by show 0 + 0 + 70 * cst σ (l ++ bs).length + 0 ≤ _; omega) (lAP_of hB hx (yb.tr (stI_Bf (Or.inr rfl))) (by show DYX Δ y.2.2; rw [y3]; exact g2) (stI_Vb yv) yl stI_s (fun i hi => ?_)) rfl
  rw [stI_vF, yf, getD_app]
  unfold va_cpy
  by_cases h : i < l.length
  · rw [if_pos h, if_neg (by omega), g6 i (by omega)]
    exact hF i h
  · rw [if_neg h, if_pos ⟨by omega, by omega⟩, Nat.zero_add]
theorem ev_SappS {Δ : Dx} {σ : St} {l bs : List Int32} {a : Nat} (hg : Sg Δ a bs) (hfit : ∀ k, k < bs.length → fits .byte (.int (bs.getD k 0)) = true) (hB : Bk Δ σ l) (hl : (l ++ bs).length ≤ 70) (hs : bs.length ≤ 18) : EvE Δ 5 m_Sbd_append_S [.ref (Δ.ba + 55), .ref a] σ (fun _ => some (.ref (Δ.ba + 55))) (lAP Δ σ (l ++ bs)) (cst σ (l ++ bs).length) (70 * cst σ (l ++ bs).length) := by
  refine evE_of (by decide) (Nat.le_of_ble_eq_true rfl) (fun Γ hk hR hT => ?_)
  refine g_aload_n (pc := 0) (dd d_Sbd_append_S 0 rfl) rfl ?_
  refine g_aload_n (pc := 1) (dd d_Sbd_append_S 1 rfl) rfl ?_
  refine g_callQE (pc := 2) (dd d_Sbd_append_S 2 rfl) q_Sbd_29 (ev_appS hg hfit hB hl hs) rfl (by rw [hk]; decide) (Nat.le_of_ble_eq_true rfl) ⟨by rw [hR]; exact Nat.le_of_eq (Nat.zero_add _), by rw [hR]; exact Nat.le_of_eq (Nat.zero_add _)⟩ rfl (fun x hx => ?_)
  refine g_pop (pc := 5) (dd d_Sbd_append_S 3 rfl) rfl ?_
  refine g_aload_n (pc := 6) (dd d_Sbd_append_S 4 rfl) rfl ?_
  exact g_aretE (pc := 7) rfl (Or.inl ⟨_, rfl⟩) (dd d_Sbd_append_S 5 rfl) hT (Nat.le_of_eq (Nat.zero_add _)) (Nat.le_of_eq (Nat.zero_add _)) hx rfl
/-- what is known of the line before it is cleared -/
def Bw (Δ : Dx) (σ : St) : Prop := DYX Δ σ.2.2 ∧ Vb σ ∧ σ.1 55 1 = 0 ∧ ∃ m, m < 2 ^ 31 ∧ σ.1 55 3 = nI m
theorem lAP_w {Δ : Dx} {σ x y : St} {l' : List Int32} (hc0 : σ.1 55 1 = 0) (hG : Gw Δ σ l'.length x) (hbf : Bf x y) (hD : DYX Δ y.2.2) (hV : Vb y) (hL : vL y = vL x) (hc : y.1 55 3 = nI l'.length) (hF : ∀ i, i < l'.length → vF y i = l'.getD i 0) : lAP Δ σ l' y := by
  obtain ⟨g1, g2, g3, g4, g5, g6, g7⟩ := hG
  refine ⟨g1.tr hbf, ⟨hD, hV, ?_, hc, by rw [hL]; exact g4, hF⟩, ?_⟩
  · rw [hbf.2.1 1 (by decide) (by decide), g5]
    exact hc0
  · unfold pot at g7 ⊢
    rw [hL]
    exact g7
/-- setLength(0), length() -/
theorem ev_setLen {Δ : Dx} {σ : St} (hB : Bw Δ σ) : EvE Δ 4 m_Asb_setLength [.ref (Δ.ba + 55), .int 0] σ (fun _ => none) (lAP Δ σ []) 0 0 := by
  obtain ⟨hD, hV, hc, m, hm, hn⟩ := id hB
  have hL := DYX_L hD
  have hcs : cst σ 0 = 0 := by
    unfold cst pot potL
    rw [if_pos (Nat.zero_le _)]
    split
    · rfl
    · split <;> rfl
  refine evE_of (by decide) (Nat.le_of_ble_eq_true rfl) (fun Γ hk hR hT => ?_)
  refine g_iload_n (pc := 0) (dd d_Asb_setLength 0 rfl) rfl ?_
  refine g_ifge (pc := 1) (tgt := 13) (dd d_Asb_setLength 1 rfl) (by decide) (fun _ => ?_) (fun q => absurd (by decide) q)
  refine g_aload_n (pc := 13) (dd d_Asb_setLength 7 rfl) rfl ?_
  refine g_iload_n (pc := 14) (dd d_Asb_setLength 8 rfl) rfl ?_
  have he := ev_ensure (mn := 0) hD hV hc (by omega) (by omega)
  rw [hcs] at he
  refine g_callPE (pc := 15) (dd d_Asb_setLength 9 rfl) p_Asb_100 he rfl (by rw [hk]; decide) (Nat.le_of_ble_eq_true rfl) ⟨Nat.zero_le _, Nat.zero_le _⟩ rfl (fun x hx => ?_)
  obtain ⟨g1, g2, g3, g4, g5, g6, g7⟩ := id hx
  have xn : x.1 55 3 = nI m := by rw [g5]; exact hn
  refine g_aload_n (pc := 18) (dd d_Asb_setLength 10 rfl) rfl ?_
  refine g_get (pc := 19) (a := 55) (dd d_Asb_setLength 11 rfl) f_Asb_79 o55 (fv_count xn) ?_
  refine g_iload_n (pc := 22) (dd d_Asb_setLength 12 rfl) rfl ?_
  refine g_icmpge (pc := 23) (tgt := 63) (dd d_Asb_setLength 13 rfl) (by decide) (fun _ => ?_) (fun q => absurd (show (0 : Int32) ≤ nI m from nI_le (Nat.zero_le _) hm) q)
  refine g_aload_n (pc := 63) (dd d_Asb_setLength 31 rfl) rfl ?_
  refine g_get (pc := 64) (a := 55) (dd d_Asb_setLength 32 rfl) f_Asb_79 o55 (fv_count xn) ?_
  refine g_iload_n (pc := 67) (dd d_Asb_setLength 33 rfl) rfl ?_
  have fin : ∀ y : St, Bf x y → DYX Δ y.2.2 → Vb y → vL y = vL x → GG Δ m_Asb_setLength Γ NN 0 0 y 76 [some (.ref (Δ.ba + 55)), some (.int 0)] [] := fun y y1 y2 y3 y4 => by
    refine g_aload_n (pc := 76) (dd d_Asb_setLength 38 rfl) rfl ?_
    refine g_iload_n (pc := 77) (dd d_Asb_setLength 39 rfl) rfl ?_
    refine g_puti (pc := 78) (a := 55) (j := 3) (dd d_Asb_setLength 40 rfl) f_Asb_79 fm_Sbd_3 o55 rfl ?_
    exact g_vretE (pc := 81) rfl (dd d_Asb_setLength 41 rfl) hT (Nat.le_refl _) (Nat.le_refl _) (lAP_w (l' := []) hc hx (y1.tr (stI_Bf (Or.inr rfl))) y2 (stI_Vb y3) y4 stI_s (fun i hi => absurd hi (Nat.not_lt_zero _))) rfl
  refine g_icmple (pc := 68) (tgt := 76) (dd d_Asb_setLength 34 rfl) (by decide) (fun _ => fin x Bf.rf g2 g3 rfl) (fun _ => ?_)
  refine g_aload_n (pc := 71) (dd d_Asb_setLength 35 rfl) rfl ?_
  refine g_iconst (pc := 72) (v := 1) (dd d_Asb_setLength 36 rfl) (by decide) ?_
  refine g_putz (pc := 73) (a := 55) (j := 2) (dd d_Asb_setLength 37 rfl) f_Asb_73 fm_Sbd_2 o55 rfl (Or.inr rfl) ?_
  exact fin (stI x 55 2 1) (stI_Bf (Or.inl rfl)) g2 (stI_Vb g3) rfl
theorem ev_SsetLen {Δ : Dx} {σ : St} (hB : Bw Δ σ) : EvE Δ 5 m_Sbd_setLength [.ref (Δ.ba + 55), .int 0] σ (fun _ => none) (lAP Δ σ []) 0 0 := by
  refine evE_of (by decide) (Nat.le_of_ble_eq_true rfl) (fun Γ hk hR hT => ?_)
  refine g_aload_n (pc := 0) (dd d_Sbd_setLength 0 rfl) rfl ?_
  refine g_iload_n (pc := 1) (dd d_Sbd_setLength 1 rfl) rfl ?_
  refine g_callQE (pc := 2) (dd d_Sbd_setLength 2 rfl) q_Sbd_333 (ev_setLen hB) rfl (by rw [hk]; decide) (Nat.le_of_ble_eq_true rfl) ⟨Nat.zero_le _, Nat.zero_le _⟩ rfl (fun x hx => ?_)
  exact g_vretE (pc := 5) rfl (dd d_Sbd_setLength 3 rfl) hT (Nat.le_refl _) (Nat.le_refl _) hx rfl
theorem ev_len {Δ : Dx} {σ : St} {l : List Int32} (hB : Bk Δ σ l) : EvE Δ 0 m_Asb_length [.ref (Δ.ba + 55)] σ (fun _ => some (.int (nI l.length))) (fun x => x = σ) 0 0 := by
  refine evE_of (by decide) (Nat.le_of_ble_eq_true rfl) (fun Γ hk hR hT => ?_)
  refine g_aload_n (pc := 0) (dd d_Asb_length 0 rfl) rfl ?_
  refine g_get (pc := 1) (a := 55) (dd d_Asb_length 1 rfl) f_Asb_79 o55 (fv_count hB.2.2.2.1) ?_
  exact g_iretE (pc := 4) rfl (dd d_Asb_length 2 rfl) hT (Nat.le_refl _) (Nat.le_refl _) rfl rfl
theorem ev_Slen {Δ : Dx} {σ : St} {l : List Int32} (hB : Bk Δ σ l) : EvE Δ 1 m_Sbd_length [.ref (Δ.ba + 55)] σ (fun _ => some (.int (nI l.length))) (fun x => x = σ) 0 0 := by
  refine evE_of (by decide) (Nat.le_of_ble_eq_true rfl) (fun Γ hk hR hT => ?_)
  refine g_aload_n (pc := 0) (dd d_Sbd_length 0 rfl) rfl ?_
  refine g_callQE (pc := 1) (dd d_Sbd_length 1 rfl) q_Sbd_343 (ev_len hB) rfl (by rw [hk]; decide) (Nat.le_of_ble_eq_true rfl) ⟨Nat.zero_le _, Nat.zero_le _⟩ rfl (fun x hx => ?_)
  exact g_iretE (pc := 4) rfl (dd d_Sbd_length 2 rfl) hT (Nat.le_refl _) (Nat.le_refl _) hx rfl
theorem n_Asb_138 : Cond.methodLink "java/lang/AbstractStringBuilder" 138 Lib.Math.min.name ∈ tb := tk6 50 rfl rfl
/-- charAt(i) -/
theorem ev_chAt {Δ : Dx} {σ : St} {l : List Int32} {i : Nat} (hB : Bk Δ σ l) (hi : i < l.length) : EvE Δ 2 m_Asb_charAt [.ref (Δ.ba + 55), .int (nI i)] σ (fun _ => some (.int (ch8 (l.getD i 0)))) (fun x => x = σ) 0 0 := by
  obtain ⟨hD, hV, hc, hn, hle, hF⟩ := id hB
  have hL := DYX_L hD
  refine evE_of (by decide) (Nat.le_of_ble_eq_true rfl) (fun Γ hk hR hT => ?_)
  refine g_aload_n (pc := 0) (dd d_Asb_charAt 0 rfl) rfl ?_
  refine g_get (pc := 1) (a := 55) (dd d_Asb_charAt 1 rfl) f_Asb_22 o55 (fv_coder hc) ?_
  refine g_istore_n (pc := 4) (dd d_Asb_charAt 2 rfl) (by decide) ?_
  refine g_aload_n (pc := 5) (dd d_Asb_charAt 3 rfl) rfl ?_
  refine g_getr (pc := 6) (a := 55) (dd d_Asb_charAt 4 rfl) f_Asb_15 o55 rfl (DYX_v hD) ?_
  refine g_astore_n (pc := 9) (dd d_Asb_charAt 5 rfl) (by decide) ?_
  refine g_aload_n (pc := 10) (dd d_Asb_charAt 6 rfl) rfl ?_
  refine g_get (pc := 11) (a := 55) (dd d_Asb_charAt 7 rfl) f_Asb_79 o55 (fv_count hn) ?_
  refine g_aload_n (pc := 14) (dd d_Asb_charAt 8 rfl) rfl ?_
  refine g_alenV (pc := 15) (v := nI (vL σ)) (dd d_Asb_charAt 9 rfl) rfl rfl ?_
  refine g_iload_n (pc := 16) (dd d_Asb_charAt 10 rfl) rfl ?_
  refine g_ishr (pc := 17) (dd d_Asb_charAt 11 rfl) ?_
  rw [shr_0]
  refine g_mmin (pc := 18) (dd d_Asb_charAt 12 rfl) n_Asb_138 (by rw [hk]; decide) (Nat.le_of_ble_eq_true rfl) (Nat.zero_le _) (Nat.zero_le _) ?_
  rw [if_neg (fun q => absurd ((nI_ltI (by omega) (by omega)).mp q) (by omega))]
  refine g_istore (pc := 21) (dd d_Asb_charAt 13 rfl) (by decide) ?_
  refine g_iload_n (pc := 23) (dd d_Asb_charAt 14 rfl) rfl ?_
  refine g_iload (pc := 24) (dd d_Asb_charAt 15 rfl) rfl ?_
  refine g_callS (pc := 26) (dd d_Asb_charAt 16 rfl) s_Asb_144 (ev_Str_checkIndex (nI_pos (by omega)) (nI_lt hi (by omega))) rfl (by rw [hk]; decide) (Nat.le_of_ble_eq_true rfl) ⟨Nat.zero_le _, Nat.zero_le _⟩ rfl ?_
  refine g_iload_n (pc := 29) (dd d_Asb_charAt 17 rfl) rfl ?_
  refine g_ifne (pc := 30) (tgt := 42) (dd d_Asb_charAt 18 rfl) (by decide) (fun q => absurd rfl q) (fun _ => ?_)
  refine g_aload_n (pc := 33) (dd d_Asb_charAt 19 rfl) rfl ?_
  refine g_iload_n (pc := 34) (dd d_Asb_charAt 20 rfl) rfl ?_
  refine g_baldV (pc := 35) (dd d_Asb_charAt 21 rfl) rfl (nI_in (by omega) (by omega)) ?_
  rw [nI_clamp (by omega), hF i hi]
  refine g_sipush (pc := 36) (v := 255) (dd d_Asb_charAt 22 rfl) (by decide) ?_
  refine g_iand (pc := 39) (dd d_Asb_charAt 23 rfl) ?_
  refine g_i2c (pc := 40) (dd d_Asb_charAt 24 rfl) ?_
  exact g_nretE (pc := 41) rfl (ch8_fit _) (dd d_Asb_charAt 25 rfl) hT (Nat.le_refl _) (Nat.le_refl _) rfl rfl
theorem ev_SchAt {Δ : Dx} {σ : St} {l : List Int32} {i : Nat} (hB : Bk Δ σ l) (hi : i < l.length) : EvE Δ 3 m_Sbd_charAt [.ref (Δ.ba + 55), .int (nI i)] σ (fun _ => some (.int (ch8 (l.getD i 0)))) (fun x => x = σ) 0 0 := by
  refine evE_of (by decide) (Nat.le_of_ble_eq_true rfl) (fun Γ hk hR hT => ?_)
  refine g_aload_n (pc := 0) (dd d_Sbd_charAt 0 rfl) rfl ?_
  refine g_iload_n (pc := 1) (dd d_Sbd_charAt 1 rfl) rfl ?_
  refine g_callQE (pc := 2) (dd d_Sbd_charAt 2 rfl) q_Sbd_329 (ev_chAt hB hi) rfl (by rw [hk]; decide) (Nat.le_of_ble_eq_true rfl) ⟨Nat.zero_le _, Nat.zero_le _⟩ rfl (fun x hx => ?_)
  exact g_nretE (pc := 5) rfl (ch8_fit _) (dd d_Sbd_charAt 3 rfl) hT (Nat.le_refl _) (Nat.le_refl _) hx rfl
