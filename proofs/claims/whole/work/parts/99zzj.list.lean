/-! a whole listing -/
theorem dS_nI {a : Nat} (h : a < 10) : dS (nI a) = [nI (48 + a)] := by
  have e : dA (nI a) = a := by
    unfold dA
    rw [nI_toInt (by omega)]
    rfl
  unfold dS
  rw [if_neg (nI_pos (by omega)), e, dg_1 h]
/-- the head of a listing: the kind's word, or 'none' and its number -/
def hW (kd : Nat) : List Int32 := if kd < 22 then kwd kd 116 else bw_311 ++ dS (nI kd)
def lfA (c : Int32) : Int32 := (c >>> ((5 : Int32) &&& 31)) &&& 7
def lfB (c : Int32) : Int32 := (c >>> ((8 : Int32) &&& 31)) &&& 7
def lfC (c : Int32) : Int32 := (c >>> ((11 : Int32) &&& 31)) &&& 7
def lfN (c : Int32) : Int32 := c >>> ((16 : Int32) &&& 31)
def kdO (c : Int32) : Nat := (c &&& 31).toNatClampNeg
def lineOf (c t : Int32) : List Int32 := ((((hW (kdO c) ++ wfl bw_319 (lfA c)) ++ wfl bw_325 (lfB c)) ++ wfl bw_327 (lfC c)) ++ wfl bw_329 (lfN c)) ++ wfl bw_331 t
theorem kdO_e (c : Int32) : kdO c < 32 ∧ c &&& 31 = nI (kdO c) := by
  obtain ⟨a, h1, h2⟩ := and31 (x := c)
  unfold kdO
  rw [h2, nI_clamp (by omega)]
  exact ⟨h1, rfl⟩
theorem wfl_7 {bs : List Int32} {x : Int32} : (dS (x &&& 7)).length = 1 ∧ (wfl bs (x &&& 7)).length ≤ bs.length + 1 := by
  obtain ⟨a, h1, h2⟩ := and7 (x := x)
  have e : dS (x &&& 7) = [nI (48 + a)] := by rw [h2, dS_nI (by omega)]
  refine ⟨by rw [e]; rfl, ?_⟩
  unfold wfl
  split
  · exact Nat.zero_le _
  · rw [List.length_append, e]
    exact Nat.le_refl _
theorem wfl_le {bs : List Int32} {x : Int32} : (wfl bs x).length ≤ bs.length + 11 := by
  unfold wfl
  split
  · exact Nat.zero_le _
  · rw [List.length_append]
    have := dS_le x
    omega
theorem dS_32 : ∀ kd, kd < 32 → (dS (nI kd)).length ≤ 2 := by
  intro kd h
  have e : dA (nI kd) = kd := by
    unfold dA
    rw [nI_toInt (by omega)]
    rfl
  unfold dS
  rw [if_neg (nI_pos (by omega)), e]
  exact dg_le 1 kd (by omega)
theorem hW_le {kd : Nat} (h : kd < 32) : (hW kd).length ≤ 8 := by
  unfold hW
  split
  · rename_i h1
    exact kwd_8 kd h1
  · rw [List.length_append]
    have := dS_32 kd h
    have : bw_311.length = 5 := rfl
    omega
section ListRun
variable {Δ : Dx} {Γ : Cx} {σ : St}
/-- one call of writeField inside writeListing -/
theorem g_wf {pc a M : Nat} {x : St} {L bs : List Int32} {v : Int32} {lv : List (Option Value)} (hdg : decode m_Eng_writeListing.2.1 pc = .ok (.invokevirtual 321, 3)) (hK : Kx Δ Δ.s0) (hk : Γ.k = 7) (hR : Γ.R = rmk 7 (cst σ M) (70 * cst σ M)) (h6 : σ.2.2 0 6 = .ref (Δ.ba + 55)) (hx : lAP Δ σ L x) (hg : Sg Δ a bs) (hfit : ∀ k, k < bs.length → fits .byte (.int (bs.getD k 0)) = true) (hs : bs.length ≤ 18) (hl : L.length + bs.length + (dS v).length ≤ 70) (hM : (L ++ wfl bs v).length ≤ M)
    (kk : ∀ y, lAP Δ σ (L ++ wfl bs v) y → GG Δ m_Eng_writeListing Γ NN (cst σ (L ++ wfl bs v).length) (70 * cst σ (L ++ wfl bs v).length) y (pc + 3) lv []) : GG Δ m_Eng_writeListing Γ NN (cst σ L.length) (70 * cst σ L.length) x pc lv [.int v, .ref a, .ref (Δ.ba + 0)] := by
  have hLn : L.length ≤ (L ++ wfl bs v).length := by rw [List.length_append]; omega
  have ht := cst_tr hx hLn
  have hc : cst σ (L ++ wfl bs v).length ≤ cst σ M := by
    have := potL_a hM
    unfold cst
    omega
  refine g_callVE (a := 0) (ci := 0) hdg v_Eng_321 o0 rfl (ev_wField (v := v) hK (hx.1.line.trans h6) hg hfit hs hx.2.1 hl) rfl (by rw [hk]; decide) (Nat.le_of_ble_eq_true rfl) ⟨by rw [hR]; show cst σ L.length + cst x (L ++ wfl bs v).length ≤ cst σ M; omega, by rw [hR]; show 70 * cst σ L.length + 70 * cst x (L ++ wfl bs v).length ≤ 70 * cst σ M; omega⟩ rfl (fun y hy => ?_)
  exact g_more (by omega) (by omega) (kk y (hx.tr hy hLn))
end ListRun
theorem ev_wList {Δ : Dx} {σ : St} {c t : Int32} (hK : Kx Δ Δ.s0) (h6 : σ.2.2 0 6 = .ref (Δ.ba + 55)) (hB : Bw Δ σ) : EvE Δ 7 m_Eng_writeListing [.ref (Δ.ba + 0), .int c, .int t] σ (fun _ => none) (lAP Δ σ (lineOf c t)) (cst σ (lineOf c t).length) (70 * cst σ (lineOf c t).length) := by
  obtain ⟨k1, k2⟩ := kdO_e c
  have b0 := hW_le k1
  have a7 := wfl_7 (bs := bw_319) (x := c >>> ((5 : Int32) &&& 31))
  have b7 := wfl_7 (bs := bw_325) (x := c >>> ((8 : Int32) &&& 31))
  have c7 := wfl_7 (bs := bw_327) (x := c >>> ((11 : Int32) &&& 31))
  have n7 := wfl_le (bs := bw_329) (x := lfN c)
  have t7 := wfl_le (bs := bw_331) (x := t)
  have dn := dS_le (lfN c)
  have dt := dS_le t
  change (dS (lfA c)).length = 1 ∧ (wfl bw_319 (lfA c)).length ≤ 3 + 1 at a7
  change (dS (lfB c)).length = 1 ∧ (wfl bw_325 (lfB c)).length ≤ 3 + 1 at b7
  change (dS (lfC c)).length = 1 ∧ (wfl bw_327 (lfC c)).length ≤ 3 + 1 at c7
  change (wfl bw_329 (lfN c)).length ≤ 3 + 11 at n7
  change (wfl bw_331 t).length ≤ 5 + 11 at t7
  have s1 : bw_319.length = 3 := rfl
  have s2 : bw_325.length = 3 := rfl
  have s3 : bw_327.length = 3 := rfl
  have s4 : bw_329.length = 3 := rfl
  have s5 : bw_331.length = 5 := rfl
  have e1 : (hW (kdO c) ++ wfl bw_319 (lfA c)).length = (hW (kdO c)).length + (wfl bw_319 (lfA c)).length := List.length_append
  have e2 : ((hW (kdO c) ++ wfl bw_319 (lfA c)) ++ wfl bw_325 (lfB c)).length = (hW (kdO c)).length + (wfl bw_319 (lfA c)).length + (wfl bw_325 (lfB c)).length := by rw [List.length_append, e1]
  have e3 : (((hW (kdO c) ++ wfl bw_319 (lfA c)) ++ wfl bw_325 (lfB c)) ++ wfl bw_327 (lfC c)).length = (hW (kdO c)).length + (wfl bw_319 (lfA c)).length + (wfl bw_325 (lfB c)).length + (wfl bw_327 (lfC c)).length := by rw [List.length_append, e2]
  have e4 : ((((hW (kdO c) ++ wfl bw_319 (lfA c)) ++ wfl bw_325 (lfB c)) ++ wfl bw_327 (lfC c)) ++ wfl bw_329 (lfN c)).length = (hW (kdO c)).length + (wfl bw_319 (lfA c)).length + (wfl bw_325 (lfB c)).length + (wfl bw_327 (lfC c)).length + (wfl bw_329 (lfN c)).length := by rw [List.length_append, e3]
  have e5 : (lineOf c t).length = (hW (kdO c)).length + (wfl bw_319 (lfA c)).length + (wfl bw_325 (lfB c)).length + (wfl bw_327 (lfC c)).length + (wfl bw_329 (lfN c)).length + (wfl bw_331 t).length := by unfold lineOf; rw [List.length_append, e4]
  have hh : (hW (kdO c)).length ≤ (lineOf c t).length := by omega
  refine evE_of (by decide) (Nat.le_of_ble_eq_true rfl) (fun Γ hk hR hT => ?_)
  have tail : ∀ x : St, lAP Δ σ (hW (kdO c)) x → GG Δ m_Eng_writeListing Γ NN (cst σ (hW (kdO c)).length) (70 * cst σ (hW (kdO c)).length) x 47 [some (.ref (Δ.ba + 0)), some (.int c), some (.int t), some (.int (nI (kdO c)))] [] := fun x hx => by
    refine g_aload_n (pc := 47) (dd d_Eng_writeListing 25 rfl) rfl ?_
    refine g_ldcSw (pc := 48) (dd d_Eng_writeListing 26 rfl) sw_319 sx_319 ?_
    refine g_iload_n (pc := 51) (dd d_Eng_writeListing 27 rfl) rfl ?_
    refine g_iconst (pc := 52) (v := 5) (dd d_Eng_writeListing 28 rfl) (by decide) ?_
    refine g_ishr (pc := 53) (dd d_Eng_writeListing 29 rfl) ?_
    refine g_bipush (pc := 54) (v := 7) (dd d_Eng_writeListing 30 rfl) (by decide) ?_
    refine g_iand (pc := 56) (dd d_Eng_writeListing 31 rfl) ?_
    refine g_wf (pc := 57) (v := lfA c) (M := (lineOf c t).length) (dd d_Eng_writeListing 32 rfl) hK hk hR h6 hx (sg_319 hK) sb_319 (by omega) (by omega) (by omega) (fun y1 h1 => ?_)
    refine g_aload_n (pc := 60) (dd d_Eng_writeListing 33 rfl) rfl ?_
    refine g_ldcSw (pc := 61) (dd d_Eng_writeListing 34 rfl) sw_325 sx_325 ?_
    refine g_iload_n (pc := 64) (dd d_Eng_writeListing 35 rfl) rfl ?_
    refine g_bipush (pc := 65) (v := 8) (dd d_Eng_writeListing 36 rfl) (by decide) ?_
    refine g_ishr (pc := 67) (dd d_Eng_writeListing 37 rfl) ?_
    refine g_bipush (pc := 68) (v := 7) (dd d_Eng_writeListing 38 rfl) (by decide) ?_
    refine g_iand (pc := 70) (dd d_Eng_writeListing 39 rfl) ?_
    refine g_wf (pc := 71) (v := lfB c) (M := (lineOf c t).length) (dd d_Eng_writeListing 40 rfl) hK hk hR h6 h1 (sg_325 hK) sb_325 (by omega) (by omega) (by omega) (fun y2 h2 => ?_)
    refine g_aload_n (pc := 74) (dd d_Eng_writeListing 41 rfl) rfl ?_
    refine g_ldcSw (pc := 75) (dd d_Eng_writeListing 42 rfl) sw_327 sx_327 ?_
    refine g_iload_n (pc := 78) (dd d_Eng_writeListing 43 rfl) rfl ?_
    refine g_bipush (pc := 79) (v := 11) (dd d_Eng_writeListing 44 rfl) (by decide) ?_
    refine g_ishr (pc := 81) (dd d_Eng_writeListing 45 rfl) ?_
    refine g_bipush (pc := 82) (v := 7) (dd d_Eng_writeListing 46 rfl) (by decide) ?_
    refine g_iand (pc := 84) (dd d_Eng_writeListing 47 rfl) ?_
    refine g_wf (pc := 85) (v := lfC c) (M := (lineOf c t).length) (dd d_Eng_writeListing 48 rfl) hK hk hR h6 h2 (sg_327 hK) sb_327 (by omega) (by omega) (by omega) (fun y3 h3 => ?_)
    refine g_aload_n (pc := 88) (dd d_Eng_writeListing 49 rfl) rfl ?_
    refine g_ldcSw (pc := 89) (dd d_Eng_writeListing 50 rfl) sw_329 sx_329 ?_
    refine g_iload_n (pc := 92) (dd d_Eng_writeListing 51 rfl) rfl ?_
    refine g_bipush (pc := 93) (v := 16) (dd d_Eng_writeListing 52 rfl) (by decide) ?_
    refine g_ishr (pc := 95) (dd d_Eng_writeListing 53 rfl) ?_
    refine g_wf (pc := 96) (v := lfN c) (M := (lineOf c t).length) (dd d_Eng_writeListing 54 rfl) hK hk hR h6 h3 (sg_329 hK) sb_329 (by omega) (by omega) (by omega) (fun y4 h4 => ?_)
    refine g_aload_n (pc := 99) (dd d_Eng_writeListing 55 rfl) rfl ?_
    refine g_ldcSw (pc := 100) (dd d_Eng_writeListing 56 rfl) sw_331 sx_331 ?_
    refine g_iload_n (pc := 103) (dd d_Eng_writeListing 57 rfl) rfl ?_
    refine g_wf (pc := 104) (v := t) (M := (lineOf c t).length) (dd d_Eng_writeListing 58 rfl) hK hk hR h6 h4 (sg_331 hK) sb_331 (by omega) (by omega) (Nat.le_refl _) (fun y5 h5 => ?_)
    exact g_vretE (pc := 107) rfl (dd d_Eng_writeListing 59 rfl) hT (Nat.le_refl _) (Nat.le_refl _) h5 rfl
  have hc0 : cst σ (hW (kdO c)).length ≤ cst σ (lineOf c t).length := by
    have := potL_a hh
    unfold cst
    omega
  refine g_aload_n (pc := 0) (dd d_Eng_writeListing 0 rfl) rfl ?_
  refine g_getr (pc := 1) (a := 0) (dd d_Eng_writeListing 1 rfl) f_Eng_56 o0 rfl h6 ?_
  refine g_iconst (pc := 4) (v := 0) (dd d_Eng_writeListing 2 rfl) (by decide) ?_
  refine g_callVE (pc := 5) (a := 55) (ci := 11) (dd d_Eng_writeListing 3 rfl) v_Eng_305 o55 rfl (ev_SsetLen hB) rfl (by rw [hk]; decide) (Nat.le_of_ble_eq_true rfl) ⟨Nat.zero_le _, Nat.zero_le _⟩ rfl (fun x hx => ?_)
  have hx0 : cst σ ([] : List Int32).length = 0 := by
    have := cst_tr hx (Nat.zero_le 0)
    have h1 := hx.2.2
    unfold cst at this ⊢
    change pot σ - potL 0 = 0
    have : potL 0 = 2 := rfl
    have : pot σ ≤ 2 := by
      unfold pot potL
      split
      · omega
      · split <;> omega
    omega
  have hxc : ∀ n, cst x n = cst σ n := fun n => by
    have := cst_tr (n := n) hx (Nat.zero_le n)
    omega
  refine g_iload_n (pc := 8) (dd d_Eng_writeListing 4 rfl) rfl ?_
  refine g_bipush (pc := 9) (v := 31) (dd d_Eng_writeListing 5 rfl) (by decide) ?_
  refine g_iand (pc := 11) (dd d_Eng_writeListing 6 rfl) ?_
  rw [k2]
  refine g_istore_n (pc := 12) (dd d_Eng_writeListing 7 rfl) (by decide) ?_
  refine g_iload_n (pc := 13) (dd d_Eng_writeListing 8 rfl) rfl ?_
  refine g_bipush (pc := 14) (v := nI 22) (dd d_Eng_writeListing 9 rfl) (by decide) ?_
  refine g_icmpge (pc := 16) (tgt := 27) (dd d_Eng_writeListing 10 rfl) (by decide) (fun q => ?_) (fun q => ?_)
  · have hq : ¬ kdO c < 22 := by
      have := (nI_leI (by omega) (by omega)).mp q
      omega
    have eh : hW (kdO c) = ([] ++ bw_311) ++ dS (nI (kdO c)) := if_neg hq
    have d2 := dS_32 _ k1
    have l1 : (([] : List Int32) ++ bw_311).length = 5 := rfl
    have l2 : ((([] : List Int32) ++ bw_311) ++ dS (nI (kdO c))).length = 5 + (dS (nI (kdO c))).length := by rw [List.length_append, l1]
    have lh : (hW (kdO c)).length = 5 + (dS (nI (kdO c))).length := by rw [eh, l2]
    have hcA : cst σ (([] : List Int32) ++ bw_311).length ≤ cst σ (hW (kdO c)).length := by
      have := potL_a (show (([] : List Int32) ++ bw_311).length ≤ (hW (kdO c)).length by omega)
      unfold cst
      omega
    refine g_aload_n (pc := 27) (dd d_Eng_writeListing 15 rfl) rfl ?_
    refine g_getr (pc := 28) (a := 0) (dd d_Eng_writeListing 16 rfl) f_Eng_56 o0 rfl (hx.1.line.trans h6) ?_
    refine g_ldcSw (pc := 31) (dd d_Eng_writeListing 17 rfl) sw_311 sx_311 ?_
    refine g_callVE (pc := 34) (a := 55) (ci := 11) (dd d_Eng_writeListing 18 rfl) v_Eng_313 o55 rfl (ev_SappS (sg_311 hK) sb_311 hx.2.1 (by rw [l1]; decide) (by decide)) rfl (by rw [hk]; decide) (Nat.le_of_ble_eq_true rfl) ⟨by rw [hR, hxc]; show 0 + 0 + _ ≤ cst σ (lineOf c t).length; omega, by rw [hR, hxc]; show 0 + 0 + _ ≤ 70 * cst σ (lineOf c t).length; omega⟩ rfl (fun y hy => ?_)
    have hyc := cst_tr (n := (hW (kdO c)).length) hy (by omega)
    rw [hxc, hxc] at hyc
    refine g_pop (pc := 37) (dd d_Eng_writeListing 19 rfl) rfl ?_
    refine g_aload_n (pc := 38) (dd d_Eng_writeListing 20 rfl) rfl ?_
    refine g_getr (pc := 39) (a := 0) (dd d_Eng_writeListing 21 rfl) f_Eng_56 o0 rfl ((hx.1.tr hy.1).line.trans h6) ?_
    refine g_iload_n (pc := 42) (dd d_Eng_writeListing 22 rfl) rfl ?_
    have hE := ev_SappI (x := nI (kdO c)) hK hy.2.1 (by omega)
    rw [← eh] at hE
    refine g_callVE (pc := 43) (a := 55) (ci := 11) (dd d_Eng_writeListing 23 rfl) v_Eng_316 o55 rfl hE rfl (by rw [hk]; decide) (Nat.le_of_ble_eq_true rfl) ⟨by rw [hR, hxc]; show 0 + 0 + _ + _ ≤ cst σ (lineOf c t).length; omega, by rw [hR, hxc]; show 0 + 0 + _ + _ ≤ 70 * cst σ (lineOf c t).length; omega⟩ rfl (fun z hz => ?_)
    refine g_pop (pc := 46) (dd d_Eng_writeListing 24 rfl) rfl ?_
    rw [hxc]
    exact g_more (by omega) (by omega) (tail z ((hx.tr hy (Nat.zero_le _)).tr hz (by omega)))
  · have hq : kdO c < 22 := Nat.lt_of_not_le (fun h => q (nI_le h (by omega)))
    have eh : hW (kdO c) = [] ++ kwd (kdO c) 116 := if_pos hq
    have hE := ev_wKind (kd := kdO c) hK (hx.1.line.trans h6) hq (Nat.zero_le _) hx.2.1
    rw [← eh] at hE
    refine g_aload_n (pc := 19) (dd d_Eng_writeListing 11 rfl) rfl ?_
    refine g_iload_n (pc := 20) (dd d_Eng_writeListing 12 rfl) rfl ?_
    refine g_callVE (pc := 21) (a := 0) (ci := 0) (dd d_Eng_writeListing 13 rfl) v_Eng_308 o0 rfl hE rfl (by rw [hk]; decide) (Nat.le_of_ble_eq_true rfl) ⟨by rw [hR, hxc]; show 0 + 0 + _ ≤ cst σ (lineOf c t).length; omega, by rw [hR, hxc]; show 0 + 0 + _ ≤ 70 * cst σ (lineOf c t).length; omega⟩ rfl (fun y hy => ?_)
    refine g_goto (pc := 24) (tgt := 47) (dd d_Eng_writeListing 14 rfl) (by decide) ?_
    rw [hxc]
    exact g_more (by omega) (by omega) (tail y (hx.tr hy (Nat.zero_le _)))
