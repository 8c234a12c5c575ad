/-! the word of a kind -/
/-- how many blanks stand before place i of the class's words -/
def spN (i : Nat) : Nat := (bs_kw.take i).countP (fun c => c == 32)
/-- the signs of word kd before place i -/
def kwd (kd i : Nat) : List Int32 := ((List.range i).filter (fun j => decide (spN j = kd ∧ ¬ bs_kw.getD j 0 = 32))).map (fun j => bs_kw.getD j 0)
theorem spN_s : ∀ i, i < 116 → spN (i + 1) = if bs_kw.getD i 0 = 32 then spN i + 1 else spN i := by decide +kernel
theorem spN_le : ∀ i, i < 117 → spN i ≤ 22 := by decide +kernel
theorem kwd_s {kd i : Nat} : kwd kd (i + 1) = if spN i = kd ∧ ¬ bs_kw.getD i 0 = 32 then kwd kd i ++ [bs_kw.getD i 0] else kwd kd i := by
  unfold kwd
  rw [List.range_succ, List.filter_append, List.map_append]
  by_cases h : spN i = kd ∧ ¬ bs_kw.getD i 0 = 32
  · rw [if_pos h]
    congr 1
    rw [List.filter_cons, if_pos (by exact decide_eq_true h)]
    rfl
  · rw [if_neg h, List.filter_cons, if_neg (by rw [decide_eq_true_eq]; exact h)]
    exact List.append_nil _
theorem kwd_x {kd : Nat} : ∀ m i : Nat, i + m ≤ 116 → kd < spN i → kwd kd (i + m) = kwd kd i ∧ kd < spN (i + m)
  | 0, _, _, h => ⟨rfl, h⟩
  | m + 1, i, h1, h => by
    obtain ⟨h2, h3⟩ := kwd_x m i (by omega) h
    rw [show i + (m + 1) = (i + m) + 1 by omega, kwd_s, if_neg (by omega), spN_s (i + m) (by omega)]
    refine ⟨h2, ?_⟩
    split <;> omega
theorem kwd_m {kd : Nat} : ∀ m i : Nat, (kwd kd i).length ≤ (kwd kd (i + m)).length
  | 0, _ => Nat.le_refl _
  | m + 1, i => by
    have ih := kwd_m (kd := kd) m i
    rw [show i + (m + 1) = (i + m) + 1 by omega, kwd_s]
    split
    · rw [List.length_append]
      omega
    · exact ih
theorem kwd_8 : ∀ kd, kd < 22 → (kwd kd 116).length ≤ 8 := by decide +kernel
theorem kw_c : ∀ j, j < 116 → ch8 (bs_kw.getD j 0) = bs_kw.getD j 0 ∧ (¬ (255 : Int32) < bs_kw.getD j 0) ∧ vp_nar .byte (bs_kw.getD j 0) = bs_kw.getD j 0 := by decide +kernel
section KindRun
variable {Δ : Dx} {Γ : Cx} {σ : St} {l : List Int32} {kd : Nat}
theorem wk_loop (hK : Kx Δ Δ.s0) (hk : Γ.k = 6) (hR : Γ.R = rmk 6 (cst σ (l ++ kwd kd 116).length) (70 * cst σ (l ++ kwd kd 116).length)) (h6 : σ.2.2 0 6 = .ref (Δ.ba + 55)) (hkd : kd < 22) (hl : l.length ≤ 50) (hT : TgE Δ Γ (fun _ => none) (lAP Δ σ (l ++ kwd kd 116)) (cst σ (l ++ kwd kd 116).length) (70 * cst σ (l ++ kwd kd 116).length)) : ∀ (m i : Nat) (x : St), i + m = 116 → lAP Δ σ (l ++ kwd kd i) x → GG Δ m_Eng_writeKind Γ NN (cst σ (l ++ kwd kd i).length) (70 * cst σ (l ++ kwd kd i).length) x 4 [some (.ref (Δ.ba + 0)), some (.int (nI kd)), some (.int (nI (spN i))), some (.int (nI i)), none] []
  | 0, i, x, hi, hx => by
    have e : i = 116 := by omega
    subst e
    refine g_iload_n (pc := 4) (dd d_Eng_writeKind 4 rfl) rfl ?_
    refine g_ldcSw (pc := 5) (dd d_Eng_writeKind 5 rfl) sw_333 sx_333 ?_
    refine g_callStr (pc := 8) (dd d_Eng_writeKind 6 rfl) v_Eng_335 (sg_333 hK) (ev_Str_length (sg_333 hK)) rfl (by rw [hk]; decide) (Nat.le_of_ble_eq_true rfl) ⟨by rw [hR]; exact Nat.le_refl _, by rw [hR]; exact Nat.le_refl _⟩ rfl ?_
    refine g_icmpge (pc := 11) (tgt := 62) (dd d_Eng_writeKind 7 rfl) (by decide) (fun _ => ?_) (fun q => absurd (nI_le (show bs_kw.length ≤ 116 by decide +kernel) (by decide)) q)
    exact g_vretE (pc := 62) rfl (dd d_Eng_writeKind 30 rfl) hT (Nat.le_refl _) (Nat.le_refl _) hx rfl
  | m + 1, i, x, hi, hx => by
    have ih := wk_loop hK hk hR h6 hkd hl hT m
    have hsp := spN_le i (by omega)
    obtain ⟨c1, c2, c3⟩ := kw_c i (by omega)
    have hm := kwd_m (kd := kd) (116 - i) i
    rw [show i + (116 - i) = 116 by omega] at hm
    have h8 := kwd_8 kd hkd
    have hlen : ∀ j, (l ++ kwd kd j).length = l.length + (kwd kd j).length := fun j => List.length_append
    have hc0 : cst σ (l ++ kwd kd i).length ≤ cst σ (l ++ kwd kd 116).length := by
      have := potL_a (show (l ++ kwd kd i).length ≤ (l ++ kwd kd 116).length by rw [hlen, hlen]; omega)
      unfold cst
      omega
    have back : ∀ (y : St), lAP Δ σ (l ++ kwd kd (i + 1)) y → ∀ l4 : Int32, GG Δ m_Eng_writeKind Γ NN (cst σ (l ++ kwd kd (i + 1)).length) (70 * cst σ (l ++ kwd kd (i + 1)).length) y 56 [some (.ref (Δ.ba + 0)), some (.int (nI kd)), some (.int (nI (spN (i + 1)))), some (.int (nI i)), some (.int l4)] [] := fun y hy l4 => by
      refine g_iinc (pc := 56) (dd d_Eng_writeKind 28 rfl) rfl (by decide) ?_
      refine g_goto (pc := 59) (tgt := 4) (dd d_Eng_writeKind 29 rfl) (by decide) ?_
      rw [show nI i + Int32.ofInt 1 = nI (i + 1) from nI_add i 1]
      refine g_forget (lv' := [some (.ref (Δ.ba + 0)), some (.int (nI kd)), some (.int (nI (spN (i + 1)))), some (.int (nI (i + 1))), none]) (fun j v hj => ?_) (ih (i + 1) y (by omega) hy)
      match j, hj with
      | 0, hj => exact hj
      | 1, hj => exact hj
      | 2, hj => exact hj
      | 3, hj => exact hj
      | 4, hj => cases hj
      | j + 5, hj => cases hj
    refine g_iload_n (pc := 4) (dd d_Eng_writeKind 4 rfl) rfl ?_
    refine g_ldcSw (pc := 5) (dd d_Eng_writeKind 5 rfl) sw_333 sx_333 ?_
    refine g_callStr (pc := 8) (dd d_Eng_writeKind 6 rfl) v_Eng_335 (sg_333 hK) (ev_Str_length (sg_333 hK)) rfl (by rw [hk]; decide) (Nat.le_of_ble_eq_true rfl) ⟨by rw [hR]; show cst σ (l ++ kwd kd i).length + 0 ≤ _; exact hc0, by rw [hR]; show 70 * cst σ (l ++ kwd kd i).length + 0 ≤ 70 * cst σ (l ++ kwd kd 116).length; omega⟩ rfl ?_
    refine g_icmpge (pc := 11) (tgt := 62) (dd d_Eng_writeKind 7 rfl) (by decide) (fun q => absurd ((nI_leI (by decide) (by omega)).mp q) (by show ¬ 116 ≤ i; omega)) (fun _ => ?_)
    refine g_iload_n (pc := 14) (dd d_Eng_writeKind 8 rfl) rfl ?_
    refine g_iload_n (pc := 15) (dd d_Eng_writeKind 9 rfl) rfl ?_
    refine g_icmpgt (pc := 16) (tgt := 62) (dd d_Eng_writeKind 10 rfl) (by decide) (fun q => ?_) (fun q => ?_)
    · have hq : kd < spN i := (nI_ltI (by omega) (by omega)).mp q
      have e := (kwd_x (kd := kd) (116 - i) i (by omega) hq).1
      rw [show i + (116 - i) = 116 by omega] at e
      refine g_vretE (pc := 62) rfl (dd d_Eng_writeKind 30 rfl) hT hc0 (by show 70 * cst σ (l ++ kwd kd i).length + 0 ≤ 70 * cst σ (l ++ kwd kd 116).length; omega) ?_ rfl
      rw [e]
      exact hx
    · have hq : ¬ kd < spN i := fun z => q (nI_lt z (by omega))
      refine g_ldcSw (pc := 19) (dd d_Eng_writeKind 11 rfl) sw_333 sx_333 ?_
      refine g_iload_n (pc := 22) (dd d_Eng_writeKind 12 rfl) rfl ?_
      refine g_callStr (pc := 23) (dd d_Eng_writeKind 13 rfl) v_Eng_338 (sg_333 hK) (ev_Str_charAt (sg_333 hK) (show i < 116 by omega)) rfl (by rw [hk]; decide) (Nat.le_of_ble_eq_true rfl) ⟨by rw [hR]; show cst σ (l ++ kwd kd i).length + 0 + 0 ≤ _; exact hc0, by rw [hR]; show 70 * cst σ (l ++ kwd kd i).length + 0 + 0 ≤ 70 * cst σ (l ++ kwd kd 116).length; omega⟩ rfl ?_
      rw [c1]
      refine g_istore (pc := 26) (dd d_Eng_writeKind 14 rfl) (by decide) ?_
      refine g_iload (pc := 28) (dd d_Eng_writeKind 15 rfl) rfl ?_
      refine g_bipush (pc := 30) (v := 32) (dd d_Eng_writeKind 16 rfl) (by decide) ?_
      refine g_icmpne (pc := 32) (tgt := 41) (dd d_Eng_writeKind 17 rfl) (by decide) (fun z => ?_) (fun z => ?_)
      · have e1 : spN (i + 1) = spN i := by rw [spN_s i (by omega), if_neg z]
        rw [e1] at back
        refine g_iload_n (pc := 41) (dd d_Eng_writeKind 20 rfl) rfl ?_
        refine g_iload_n (pc := 42) (dd d_Eng_writeKind 21 rfl) rfl ?_
        refine g_icmpne (pc := 43) (tgt := 56) (dd d_Eng_writeKind 22 rfl) (by decide) (fun w => ?_) (fun w => ?_)
        · have e2 : kwd kd (i + 1) = kwd kd i := by rw [kwd_s, if_neg (fun h => w (by rw [h.1]))]
          rw [e2] at back
          exact back x hx _
        · have hw : spN i = kd := by
            have := congrArg Int32.toInt w
            rw [nI_toInt (by omega), nI_toInt (by omega)] at this
            omega
          have e2 : l ++ kwd kd (i + 1) = (l ++ kwd kd i) ++ [bs_kw.getD i 0] := by rw [kwd_s, if_pos ⟨hw, z⟩, List.append_assoc]
          have hm2 := kwd_m (kd := kd) (116 - (i + 1)) (i + 1)
          rw [show i + 1 + (116 - (i + 1)) = 116 by omega] at hm2
          have hc1 : cst σ (l ++ kwd kd (i + 1)).length ≤ cst σ (l ++ kwd kd 116).length := by
            have := potL_a (show (l ++ kwd kd (i + 1)).length ≤ (l ++ kwd kd 116).length by rw [hlen, hlen]; omega)
            unfold cst
            omega
          have hll : (l ++ kwd kd (i + 1)).length = (l ++ kwd kd i).length + 1 := by rw [e2, List.length_append]; rfl
          have ht := cst_tr hx (show (l ++ kwd kd i).length ≤ (l ++ kwd kd (i + 1)).length by omega)
          have hE := ev_SappC (ch := bs_kw.getD i 0) hx.2.1 (by rw [hlen]; omega) c2 c3
          rw [← e2] at hE
          refine g_aload_n (pc := 46) (dd d_Eng_writeKind 23 rfl) rfl ?_
          refine g_getr (pc := 47) (a := 0) (dd d_Eng_writeKind 24 rfl) f_Eng_56 o0 rfl (hx.1.line.trans h6) ?_
          refine g_iload (pc := 50) (dd d_Eng_writeKind 25 rfl) rfl ?_
          refine g_callVE (pc := 52) (a := 55) (ci := 11) (dd d_Eng_writeKind 26 rfl) v_Eng_339 o55 rfl hE rfl (by rw [hk]; decide) (Nat.le_of_ble_eq_true rfl) ⟨by rw [hR]; show cst σ (l ++ kwd kd i).length + 0 + 0 + cst x (l ++ kwd kd (i + 1)).length ≤ cst σ (l ++ kwd kd 116).length; omega, by rw [hR]; show 70 * cst σ (l ++ kwd kd i).length + 0 + 0 + 70 * cst x (l ++ kwd kd (i + 1)).length ≤ 70 * cst σ (l ++ kwd kd 116).length; omega⟩ rfl (fun y hy => ?_)
          refine g_pop (pc := 55) (dd d_Eng_writeKind 27 rfl) rfl ?_
          refine g_more (k' := cst σ (l ++ kwd kd (i + 1)).length) (c' := 70 * cst σ (l ++ kwd kd (i + 1)).length) (by show cst σ (l ++ kwd kd i).length + 0 + 0 + cst x (l ++ kwd kd (i + 1)).length ≤ _; omega) (by show 70 * cst σ (l ++ kwd kd i).length + 0 + 0 + 70 * cst x (l ++ kwd kd (i + 1)).length ≤ _; omega) ?_
          exact back y (hx.tr hy (by omega)) _
      · have z' : bs_kw.getD i 0 = 32 := z
        have e1 : spN (i + 1) = spN i + 1 := by rw [spN_s i (by omega), if_pos z']
        have e2 : kwd kd (i + 1) = kwd kd i := by rw [kwd_s, if_neg (fun h => h.2 z')]
        rw [e1, e2] at back
        refine g_iinc (pc := 35) (dd d_Eng_writeKind 18 rfl) rfl (by decide) ?_
        rw [show nI (spN i) + Int32.ofInt 1 = nI (spN i + 1) from nI_add _ 1]
        refine g_goto (pc := 38) (tgt := 56) (dd d_Eng_writeKind 19 rfl) (by decide) ?_
        exact back x hx _
end KindRun
theorem ev_wKind {Δ : Dx} {σ : St} {l : List Int32} {kd : Nat} (hK : Kx Δ Δ.s0) (h6 : σ.2.2 0 6 = .ref (Δ.ba + 55)) (hkd : kd < 22) (hl : l.length ≤ 50) (hB : Bk Δ σ l) : EvE Δ 6 m_Eng_writeKind [.ref (Δ.ba + 0), .int (nI kd)] σ (fun _ => none) (lAP Δ σ (l ++ kwd kd 116)) (cst σ (l ++ kwd kd 116).length) (70 * cst σ (l ++ kwd kd 116).length) := by
  refine evE_of (by decide) (Nat.le_of_ble_eq_true rfl) (fun Γ hk hR hT => ?_)
  refine g_iconst (pc := 0) (v := nI 0) (dd d_Eng_writeKind 0 rfl) (by decide) ?_
  refine g_istore_n (pc := 1) (dd d_Eng_writeKind 1 rfl) (by decide) ?_
  refine g_iconst (pc := 2) (v := nI 0) (dd d_Eng_writeKind 2 rfl) (by decide) ?_
  refine g_istore_n (pc := 3) (dd d_Eng_writeKind 3 rfl) (by decide) ?_
  have hx : lAP Δ σ (l ++ kwd kd 0) σ := by
    show lAP Δ σ (l ++ []) σ
    rw [List.append_nil]
    exact lAP.rf hB
  exact g_more (Nat.zero_le _) (Nat.zero_le _) (wk_loop hK hk hR h6 hkd hl hT 116 0 σ rfl hx)
