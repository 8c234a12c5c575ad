/-! append(int) -/
theorem g_same {Δ : Dx} {mi : MI} {Γ : Cx} {k c : Nat} {σ : St} {pc : Nat} {lv : List (Option Value)} {st : List Value} (hV : Vb σ) (kk : GG Δ mi Γ NN k c (vS σ (vF σ)) pc lv st) : GG Δ mi Γ NN k c σ pc lv st := by
  refine g_sub (fun x hx => ?_) kk
  rw [← v_set (vF_fit hV)] at hx
  have e : (Δ.W NN σ).set (vQ σ) (vA Δ σ, .inl (Δ.2.2.1 .byte, vL σ, .inl (vF σ))) = Δ.W NN σ := by
    apply List.ext_getElem?
    intro b
    rw [List.getElem?_set]
    by_cases h : vQ σ = b
    · subst h
      rw [if_pos rfl, if_pos (List.getElem?_eq_some_iff.mp (v_row (Δ := Δ))).1, v_row]
    · rw [if_neg h]
  rw [e] at hx
  exact hx
theorem ev_getChars {Δ : Dx} {σ : St} {x : Int32} {pos : Nat} (hK : Kx Δ Δ.s0) (hV : Vb σ) (hL : vL σ ≤ 70) (hp : pos ≤ vL σ) (hl : (dS x).length ≤ pos) : EvN Δ 0 m_Int_getChars NN [.int x, .int (nI pos), .ref (vA Δ σ)] σ (some (.int (nI (pos - (dS x).length)))) NN (vS σ (wr (vF σ) pos (dS x))) 0 0 := by
  obtain ⟨t1, k1⟩ := dt_1 hK
  obtain ⟨t2, k2⟩ := dt_2 hK
  refine ev_of (by decide) (Nat.le_of_ble_eq_true rfl) (fun Γ hk hR hT => ?_)
  refine g_iload_n (pc := 0) (dd d_Int_getChars 0 rfl) rfl ?_
  refine g_istore (pc := 1) (dd d_Int_getChars 1 rfl) (by decide) ?_
  refine g_iload_n (pc := 3) (dd d_Int_getChars 2 rfl) rfl ?_
  refine g_ifge (pc := 4) (tgt := 11) (dd d_Int_getChars 3 rfl) (by decide) (fun q => ?_) (fun q => ?_)
  · have q' : ¬ x < 0 := Int32.not_lt.mpr q
    have e : dS x = dg (dA x) := if_neg q'
    rw [e] at hl hT
    refine g_iconst (pc := 11) (v := 0) (dd d_Int_getChars 6 rfl) (by decide) ?_
    refine g_istore (pc := 12) (dd d_Int_getChars 7 rfl) (by decide) ?_
    refine g_iload (pc := 14) (x := 0) (dd d_Int_getChars 8 rfl) rfl ?_
    refine g_ifne (pc := 16) (tgt := 22) (dd d_Int_getChars 9 rfl) (by decide) (fun z => absurd rfl z) (fun _ => ?_)
    refine g_iload_n (pc := 19) (dd d_Int_getChars 10 rfl) rfl ?_
    refine g_ineg (pc := 20) (dd d_Int_getChars 11 rfl) ?_
    refine g_istore_n (pc := 21) (dd d_Int_getChars 12 rfl) (by decide) ?_
    refine g_same hV ?_
    refine g_forget (lv' := [some (.int (-x)), none, some (.ref (vA Δ σ)), none, none, some (.int (nI pos)), some (.int 0)]) (fun i v hi => ?_) ?_
    · match i, hi with
      | 0, hi => exact hi
      | 1, hi => cases hi
      | 2, hi => exact hi
      | 3, hi => cases hi
      | 4, hi => cases hi
      | 5, hi => exact hi
      | 6, hi => exact hi
      | i + 7, hi => cases hi
    exact gc_loop hV hL k1 k2 hT (Or.inl rfl) _ (dA x) pos (-x) (vF σ) (Nat.lt_succ_self _) (dA_le x) (neg_p q') (vF_fit hV) hp hl (fun h => absurd h (by decide)) (by rw [if_pos rfl]) (by rw [if_pos rfl])
  · have q' : x < 0 := Int32.not_le.mp q
    have e : dS x = nI 45 :: dg (dA x) := if_pos q'
    have el : (dS x).length = (dg (dA x)).length + 1 := by rw [e]; rfl
    rw [el] at hl
    rw [el, e, wr_cons hl] at hT
    refine g_iconst (pc := 7) (v := 1) (dd d_Int_getChars 4 rfl) (by decide) ?_
    refine g_goto (pc := 8) (tgt := 12) (dd d_Int_getChars 5 rfl) (by decide) ?_
    refine g_istore (pc := 12) (dd d_Int_getChars 7 rfl) (by decide) ?_
    refine g_iload (pc := 14) (x := 1) (dd d_Int_getChars 8 rfl) rfl ?_
    refine g_ifne (pc := 16) (tgt := 22) (dd d_Int_getChars 9 rfl) (by decide) (fun _ => ?_) (fun z => absurd z (by decide))
    refine g_same hV ?_
    refine g_forget (lv' := [some (.int x), none, some (.ref (vA Δ σ)), none, none, some (.int (nI pos)), some (.int 1)]) (fun i v hi => ?_) ?_
    · match i, hi with
      | 0, hi => exact hi
      | 1, hi => cases hi
      | 2, hi => exact hi
      | 3, hi => cases hi
      | 4, hi => cases hi
      | 5, hi => exact hi
      | 6, hi => exact hi
      | i + 7, hi => cases hi
    exact gc_loop hV hL k1 k2 hT (Or.inr rfl) _ (dA x) pos x (vF σ) (Nat.lt_succ_self _) (dA_le x) (neg_n q') (vF_fit hV) hp (by omega) (fun _ => hl) (by rw [if_neg (by decide)]) (by rw [if_neg (by decide), Nat.sub_sub])
theorem dg_le : ∀ (m a : Nat), a < 10 ^ (m + 1) → (dg a).length ≤ m + 1
  | 0, a, h => by
    rw [dg_1 (by omega)]
    exact Nat.le_refl _
  | m + 1, a, h => by
    by_cases h1 : a < 10
    · rw [dg_1 h1]
      exact Nat.le_add_left _ _
    · have ih := dg_le m (a / 10)
      rw [Nat.pow_succ] at h
      rw [dg_2 h1, List.length_append]
      have := ih (by generalize 10 ^ (m + 1) = X at h ⊢; omega)
      show _ + 1 ≤ _
      omega
theorem dS_le (x : Int32) : (dS x).length ≤ 11 := by
  have h := dg_le 9 (dA x) (by have := dA_le x; omega)
  unfold dS
  split
  · show _ + 1 ≤ 11
    omega
  · omega
theorem dg_fit : ∀ (m a : Nat), a < m → ∀ k, fits .byte (.int ((dg a).getD k 0)) = true
  | 0, _, h => absurd h (Nat.not_lt_zero _)
  | m + 1, a, h => by
    intro k
    by_cases h1 : a < 10
    · rw [dg_1 h1]
      match k with
      | 0 => exact dig_fit a h1
      | k + 1 => rfl
    · rw [dg_2 h1, getD_app]
      split
      · exact dg_fit m (a / 10) (by omega) k
      · match k - (dg (a / 10)).length with
        | 0 => exact dig_fit _ (by omega)
        | k + 1 => rfl
theorem dS_fit (x : Int32) : ∀ k, fits .byte (.int ((dS x).getD k 0)) = true := by
  intro k
  unfold dS
  split
  · match k with
    | 0 => rfl
    | k + 1 => exact dg_fit _ _ (Nat.lt_succ_self _) k
  · exact dg_fit _ _ (Nat.lt_succ_self _) k
theorem ev_appI {Δ : Dx} {σ : St} {l : List Int32} {x : Int32} (hK : Kx Δ Δ.s0) (hB : Bk Δ σ l) (hl : (l ++ dS x).length ≤ 70) : EvE Δ 4 m_Asb_append_I [.ref (Δ.ba + 55), .int x] σ (fun _ => some (.ref (Δ.ba + 55))) (lAP Δ σ (l ++ dS x)) (cst σ (l ++ dS x).length) (70 * cst σ (l ++ dS x).length) := by
  obtain ⟨hD, hV, hc, hn, hle, hF⟩ := id hB
  have hL := DYX_L hD
  have hs := dS_le x
  have hlen : (l ++ dS x).length = l.length + (dS x).length := List.length_append
  refine evE_of (by decide) (Nat.le_of_ble_eq_true rfl) (fun Γ hk hR hT => ?_)
  refine g_aload_n (pc := 0) (dd d_Asb_append_I 0 rfl) rfl ?_
  refine g_get (pc := 1) (a := 55) (dd d_Asb_append_I 1 rfl) f_Asb_79 o55 (fv_count hn) ?_
  refine g_istore_n (pc := 4) (dd d_Asb_append_I 2 rfl) (by decide) ?_
  refine g_iload_n (pc := 5) (dd d_Asb_append_I 3 rfl) rfl ?_
  refine g_iload_n (pc := 6) (dd d_Asb_append_I 4 rfl) rfl ?_
  refine g_callS (pc := 7) (dd d_Asb_append_I 5 rfl) s_Asb_245 ev_strSize rfl (by rw [hk]; decide) (Nat.le_of_ble_eq_true rfl) ⟨Nat.zero_le _, Nat.zero_le _⟩ rfl ?_
  refine g_iadd (pc := 10) (dd d_Asb_append_I 6 rfl) ?_
  rw [nI_add, ← hlen]
  refine g_istore_n (pc := 11) (dd d_Asb_append_I 7 rfl) (by decide) ?_
  refine g_aload_n (pc := 12) (dd d_Asb_append_I 8 rfl) rfl ?_
  refine g_iload_n (pc := 13) (dd d_Asb_append_I 9 rfl) rfl ?_
  refine g_callPE (pc := 14) (dd d_Asb_append_I 10 rfl) p_Asb_100 (ev_ensure (mn := (l ++ dS x).length) hD hV hc (by omega) (by omega)) rfl (by rw [hk]; decide) (Nat.le_of_ble_eq_true rfl) ⟨by rw [hR]; show 0 + 0 + cst σ (l ++ dS x).length ≤ cst σ (l ++ dS x).length; omega, by rw [hR]; show 0 + 0 + 70 * cst σ (l ++ dS x).length ≤ 70 * cst σ (l ++ dS x).length; omega⟩ rfl (fun z hz => ?_)
  obtain ⟨g1, g2, g3, g4, g5, g6, g7⟩ := id hz
  have xc : z.1 55 1 = 0 := by rw [g5]; exact hc
  have hL2 := DYX_L g2
  refine g_aload_n (pc := 17) (dd d_Asb_append_I 11 rfl) rfl ?_
  refine g_callUE (pc := 18) (dd d_Asb_append_I 12 rfl) u_Asb_83 (ev_isLat xc) rfl (by rw [hk]; decide) (Nat.le_of_ble_eq_true rfl) ⟨by rw [hR]; show 0 + 0 + cst σ (l ++ dS x).length + 0 ≤ cst σ (l ++ dS x).length; omega, by rw [hR]; show 0 + 0 + 70 * cst σ (l ++ dS x).length + 0 ≤ 70 * cst σ (l ++ dS x).length; omega⟩ rfl (fun y hy => ?_)
  subst hy
  refine g_ifeq (pc := 21) (tgt := 37) (dd d_Asb_append_I 13 rfl) (by decide) (fun q => absurd q (by decide)) (fun _ => ?_)
  refine g_iload_n (pc := 24) (dd d_Asb_append_I 14 rfl) rfl ?_
  refine g_iload_n (pc := 25) (dd d_Asb_append_I 15 rfl) rfl ?_
  refine g_aload_n (pc := 26) (dd d_Asb_append_I 16 rfl) rfl ?_
  refine g_getr (pc := 27) (a := 55) (dd d_Asb_append_I 17 rfl) f_Asb_15 o55 rfl (DYX_v g2) ?_
  refine g_callS (pc := 30) (dd d_Asb_append_I 18 rfl) s_Asb_248 (ev_getChars hK g3 (by omega) g4 (by omega)) rfl (by rw [hk]; decide) (Nat.le_of_ble_eq_true rfl) ⟨by rw [hR]; show 0 + 0 + cst σ (l ++ dS x).length + 0 + 0 ≤ cst σ (l ++ dS x).length; omega, by rw [hR]; show 0 + 0 + 70 * cst σ (l ++ dS x).length + 0 + 0 ≤ 70 * cst σ (l ++ dS x).length; omega⟩ rfl ?_
  have hf : ∀ k, fits .byte (.int (wr (vF y) (l ++ dS x).length (dS x) k)) = true := cpy_fit (fun i _ => dS_fit x _) (vF_fit g3)
  refine g_pop (pc := 33) (dd d_Asb_append_I 19 rfl) rfl ?_
  refine g_goto (pc := 34) (tgt := 48) (dd d_Asb_append_I 20 rfl) (by decide) ?_
  refine g_aload_n (pc := 48) (dd d_Asb_append_I 28 rfl) rfl ?_
  refine g_iload_n (pc := 49) (dd d_Asb_append_I 29 rfl) rfl ?_
  refine g_puti (pc := 50) (a := 55) (j := 3) (dd d_Asb_append_I 30 rfl) f_Asb_79 fm_Sbd_3 o55 rfl ?_
  refine g_aload_n (pc := 53) (dd d_Asb_append_I 31 rfl) rfl ?_
  refine g_aretE (pc := 54) rfl (Or.inl ⟨_, rfl⟩) (dd d_Asb_append_I 32 rfl) hT (by show 0 + 0 + cst σ (l ++ dS x).length + 0 + 0 ≤ _; omega) (by show 0 + 0 + 70 * cst σ (l ++ dS x).length + 0 + 0 ≤ _; omega) (lAP_of hB hz (Bf.vS.tr (stI_Bf (Or.inr rfl))) (by show DYX Δ (vS y _).2.2; rw [vS_3]; exact g2) (stI_Vb (vS_b hf g3)) (by show vL (vS y _) = vL y; exact vS_L) stI_s (fun i hi => ?_)) rfl
  rw [stI_vF, vS_F hf, getD_app]
  unfold wr va_cpy
  rw [hlen, Nat.add_sub_cancel]
  rw [hlen] at hi
  by_cases h : i < l.length
  · rw [if_pos h, if_neg (by omega), g6 i (by omega)]
    exact hF i h
  · rw [if_neg h, if_pos ⟨by omega, by omega⟩, Nat.zero_add]
theorem ev_SappI {Δ : Dx} {σ : St} {l : List Int32} {x : Int32} (hK : Kx Δ Δ.s0) (hB : Bk Δ σ l) (hl : (l ++ dS x).length ≤ 70) : EvE Δ 5 m_Sbd_append_I [.ref (Δ.ba + 55), .int x] σ (fun _ => some (.ref (Δ.ba + 55))) (lAP Δ σ (l ++ dS x)) (cst σ (l ++ dS x).length) (70 * cst σ (l ++ dS x).length) := by
  refine evE_of (by decide) (Nat.le_of_ble_eq_true rfl) (fun Γ hk hR hT => ?_)
  refine g_aload_n (pc := 0) (dd d_Sbd_append_I 0 rfl) rfl ?_
  refine g_iload_n (pc := 1) (dd d_Sbd_append_I 1 rfl) rfl ?_
  refine g_callQE (pc := 2) (dd d_Sbd_append_I 2 rfl) q_Sbd_53 (ev_appI hK hB hl) rfl (by rw [hk]; decide) (Nat.le_of_ble_eq_true rfl) ⟨by rw [hR]; exact Nat.le_of_eq (Nat.zero_add _), by rw [hR]; exact Nat.le_of_eq (Nat.zero_add _)⟩ rfl (fun x hx => ?_)
  refine g_pop (pc := 5) (dd d_Sbd_append_I 3 rfl) rfl ?_
  refine g_aload_n (pc := 6) (dd d_Sbd_append_I 4 rfl) rfl ?_
  exact g_aretE (pc := 7) rfl (Or.inl ⟨_, rfl⟩) (dd d_Sbd_append_I 5 rfl) hT (Nat.le_of_eq (Nat.zero_add _)) (Nat.le_of_eq (Nat.zero_add _)) hx rfl
