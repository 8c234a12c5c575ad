/-! the class's own writers: the strings that they say; a field -/
theorem lw6 {w : Cond} (i : Nat) (h0 : tables_1_6[i]? = some w) : w ∈ lw_tbl := by
  have h : w ∈ tables_1_6 := List.mem_of_getElem? h0
  exact List.mem_append_right _ (List.mem_append_right _ (List.mem_append_right _ (List.mem_append_right _ (List.mem_append_right _ (List.mem_append_right _ (List.mem_append_left _ h))))))
theorem g_ldcSw {Δ : Dx} {mi : MI} {Γ : Cx} {n k c : Nat} {σ : St} {pc : Nat} {lv : List (Option Value)} {rest : List Value} {idx : Nat} {tx : String} {i : Nat} (hdg : decode mi.2.1 pc = .ok (.ldc_w idx, 3)) (hw : Cond.stringRef mi.1.cls idx tx ∈ lw_tbl) (f0 : FLc[i]? = some (Cond.exactly (.string mi.1.cls idx) "java/lang/String")) (kk : GG Δ mi Γ n k c σ (pc + 3) lv (.ref (strA Δ mi.1.cls idx) :: rest)) : GG Δ mi Γ n k c σ pc lv rest := fun ok H locs ls hP hS hl => by
  have hZ := kx_strR ok.2.2.2.2.2.2.2.1 hw f0
  intro T hT X
  obtain ⟨t, a1, b1⟩ := kk ok H locs ls hP hS hl T hT X
  exact ⟨t, X.ldcStringW ok.1 ok.2.2.2.1 (text := tx) hZ.1 hZ.2 (g := F0 Γ.m pc ls rest) rfl (by rw [ok.2.1]; exact hdg) t a1, b1⟩
def bw_311 : List Int32 := [110, 111, 110, 101, 32]
theorem sw_311 : Cond.stringRef "WardEngine" 311 "none " ∈ lw_tbl := lw6 30 rfl
theorem sx_311 : FLc[884]? = some (Cond.exactly (.string "WardEngine" 311) "java/lang/String") := by decide +kernel
theorem sy_311 : ∀ j, j < bw_311.length → FLc[884 + 4 + j]? = some (Cond.eq (.elem (.field (.string "WardEngine" 311) "java/lang/String" "value" "[B") (.int (Int32.ofNat j))) (.int (bw_311.getD j 0))) := by decide +kernel
theorem sg_311 {Δ : Dx} {U : State} (h : Kx Δ U) : Sg Δ (strA Δ "WardEngine" 311) bw_311 := sg_of h (by decide) sx_311 (by decide +kernel) (by decide +kernel) (by decide +kernel) sy_311
theorem sb_311 : ∀ j, j < bw_311.length → fits .byte (.int (bw_311.getD j 0)) = true := by decide +kernel
def bw_319 : List Int32 := [32, 97, 32]
theorem sw_319 : Cond.stringRef "WardEngine" 319 " a " ∈ lw_tbl := lw6 33 rfl
theorem sx_319 : FLc[893]? = some (Cond.exactly (.string "WardEngine" 319) "java/lang/String") := by decide +kernel
theorem sy_319 : ∀ j, j < bw_319.length → FLc[893 + 4 + j]? = some (Cond.eq (.elem (.field (.string "WardEngine" 319) "java/lang/String" "value" "[B") (.int (Int32.ofNat j))) (.int (bw_319.getD j 0))) := by decide +kernel
theorem sg_319 {Δ : Dx} {U : State} (h : Kx Δ U) : Sg Δ (strA Δ "WardEngine" 319) bw_319 := sg_of h (by decide) sx_319 (by decide +kernel) (by decide +kernel) (by decide +kernel) sy_319
theorem sb_319 : ∀ j, j < bw_319.length → fits .byte (.int (bw_319.getD j 0)) = true := by decide +kernel
def bw_325 : List Int32 := [32, 98, 32]
theorem sw_325 : Cond.stringRef "WardEngine" 325 " b " ∈ lw_tbl := lw6 38 rfl
theorem sx_325 : FLc[900]? = some (Cond.exactly (.string "WardEngine" 325) "java/lang/String") := by decide +kernel
theorem sy_325 : ∀ j, j < bw_325.length → FLc[900 + 4 + j]? = some (Cond.eq (.elem (.field (.string "WardEngine" 325) "java/lang/String" "value" "[B") (.int (Int32.ofNat j))) (.int (bw_325.getD j 0))) := by decide +kernel
theorem sg_325 {Δ : Dx} {U : State} (h : Kx Δ U) : Sg Δ (strA Δ "WardEngine" 325) bw_325 := sg_of h (by decide) sx_325 (by decide +kernel) (by decide +kernel) (by decide +kernel) sy_325
theorem sb_325 : ∀ j, j < bw_325.length → fits .byte (.int (bw_325.getD j 0)) = true := by decide +kernel
def bw_327 : List Int32 := [32, 99, 32]
theorem sw_327 : Cond.stringRef "WardEngine" 327 " c " ∈ lw_tbl := lw6 39 rfl
theorem sx_327 : FLc[907]? = some (Cond.exactly (.string "WardEngine" 327) "java/lang/String") := by decide +kernel
theorem sy_327 : ∀ j, j < bw_327.length → FLc[907 + 4 + j]? = some (Cond.eq (.elem (.field (.string "WardEngine" 327) "java/lang/String" "value" "[B") (.int (Int32.ofNat j))) (.int (bw_327.getD j 0))) := by decide +kernel
theorem sg_327 {Δ : Dx} {U : State} (h : Kx Δ U) : Sg Δ (strA Δ "WardEngine" 327) bw_327 := sg_of h (by decide) sx_327 (by decide +kernel) (by decide +kernel) (by decide +kernel) sy_327
theorem sb_327 : ∀ j, j < bw_327.length → fits .byte (.int (bw_327.getD j 0)) = true := by decide +kernel
def bw_329 : List Int32 := [32, 110, 32]
theorem sw_329 : Cond.stringRef "WardEngine" 329 " n " ∈ lw_tbl := lw6 40 rfl
theorem sx_329 : FLc[914]? = some (Cond.exactly (.string "WardEngine" 329) "java/lang/String") := by decide +kernel
theorem sy_329 : ∀ j, j < bw_329.length → FLc[914 + 4 + j]? = some (Cond.eq (.elem (.field (.string "WardEngine" 329) "java/lang/String" "value" "[B") (.int (Int32.ofNat j))) (.int (bw_329.getD j 0))) := by decide +kernel
theorem sg_329 {Δ : Dx} {U : State} (h : Kx Δ U) : Sg Δ (strA Δ "WardEngine" 329) bw_329 := sg_of h (by decide) sx_329 (by decide +kernel) (by decide +kernel) (by decide +kernel) sy_329
theorem sb_329 : ∀ j, j < bw_329.length → fits .byte (.int (bw_329.getD j 0)) = true := by decide +kernel
def bw_331 : List Int32 := [32, 116, 97, 103, 32]
theorem sw_331 : Cond.stringRef "WardEngine" 331 " tag " ∈ lw_tbl := lw6 41 rfl
theorem sx_331 : FLc[921]? = some (Cond.exactly (.string "WardEngine" 331) "java/lang/String") := by decide +kernel
theorem sy_331 : ∀ j, j < bw_331.length → FLc[921 + 4 + j]? = some (Cond.eq (.elem (.field (.string "WardEngine" 331) "java/lang/String" "value" "[B") (.int (Int32.ofNat j))) (.int (bw_331.getD j 0))) := by decide +kernel
theorem sg_331 {Δ : Dx} {U : State} (h : Kx Δ U) : Sg Δ (strA Δ "WardEngine" 331) bw_331 := sg_of h (by decide) sx_331 (by decide +kernel) (by decide +kernel) (by decide +kernel) sy_331
theorem sb_331 : ∀ j, j < bw_331.length → fits .byte (.int (bw_331.getD j 0)) = true := by decide +kernel
theorem sw_333 : Cond.stringRef "WardEngine" 333 "halt constant move add subtract multiply and or xor below like load store jump branch go link out in make drop mark " ∈ lw_tbl := lw6 14 rfl
theorem sx_333 : FLc[763]? = some (Cond.exactly (.string "WardEngine" 333) "java/lang/String") := by decide +kernel
theorem sy_333 : ∀ j, j < bs_kw.length → FLc[763 + 4 + j]? = some (Cond.eq (.elem (.field (.string "WardEngine" 333) "java/lang/String" "value" "[B") (.int (Int32.ofNat j))) (.int (bs_kw.getD j 0))) := by decide +kernel
theorem sg_333 {Δ : Dx} {U : State} (h : Kx Δ U) : Sg Δ (strA Δ "WardEngine" 333) bs_kw := sg_of h (by decide) sx_333 (by decide +kernel) (by decide +kernel) (by decide +kernel) sy_333
/-- nothing is said -/
theorem lAP.rf {Δ : Dx} {σ : St} {l : List Int32} (h : Bk Δ σ l) : lAP Δ σ l σ := by
  refine ⟨Bf.rf, h, ?_⟩
  have := potL_a h.2.2.2.2.1
  unfold pot
  omega
theorem Bf.line {σ x : St} (h : Bf σ x) : x.2.2 0 6 = σ.2.2 0 6 := by rw [h.2.2.2.1 0 (by decide) (by decide)]
theorem o0 : Ob NN 0 0 := ⟨by decide, rfl⟩
/-- what writeField says -/
def wfl (bs : List Int32) (v : Int32) : List Int32 := if v = 0 then [] else bs ++ dS v
theorem ev_wField {Δ : Dx} {σ : St} {l bs : List Int32} {a : Nat} {v : Int32} (hK : Kx Δ Δ.s0) (h6 : σ.2.2 0 6 = .ref (Δ.ba + 55)) (hg : Sg Δ a bs) (hfit : ∀ k, k < bs.length → fits .byte (.int (bs.getD k 0)) = true) (hs : bs.length ≤ 18) (hB : Bk Δ σ l) (hl : l.length + bs.length + (dS v).length ≤ 70) : EvE Δ 6 m_Eng_writeField [.ref (Δ.ba + 0), .ref a, .int v] σ (fun _ => none) (lAP Δ σ (l ++ wfl bs v)) (cst σ (l ++ wfl bs v).length) (70 * cst σ (l ++ wfl bs v).length) := by
  refine evE_of (by decide) (Nat.le_of_ble_eq_true rfl) (fun Γ hk hR hT => ?_)
  refine g_iload_n (pc := 0) (dd d_Eng_writeField 0 rfl) rfl ?_
  refine g_ifeq (pc := 1) (tgt := 22) (dd d_Eng_writeField 1 rfl) (by decide) (fun q => ?_) (fun q => ?_)
  · refine g_vretE (pc := 22) rfl (dd d_Eng_writeField 12 rfl) hT (Nat.zero_le _) (Nat.zero_le _) ?_ rfl
    rw [show wfl bs v = [] from if_pos q, List.append_nil]
    exact lAP.rf hB
  · have e : l ++ wfl bs v = (l ++ bs) ++ dS v := by rw [show wfl bs v = bs ++ dS v from if_neg q, List.append_assoc]
    rw [e] at hT hR
    have e1 : (l ++ bs).length = l.length + bs.length := List.length_append
    have e2 : ((l ++ bs) ++ dS v).length = l.length + bs.length + (dS v).length := by rw [List.length_append, e1]
    refine g_aload_n (pc := 4) (dd d_Eng_writeField 2 rfl) rfl ?_
    refine g_getr (pc := 5) (a := 0) (dd d_Eng_writeField 3 rfl) f_Eng_56 o0 rfl h6 ?_
    refine g_aload_n (pc := 8) (dd d_Eng_writeField 4 rfl) rfl ?_
    have hle : cst σ (l ++ bs).length ≤ cst σ ((l ++ bs) ++ dS v).length := by
      have := potL_a (show (l ++ bs).length ≤ ((l ++ bs) ++ dS v).length by omega)
      unfold cst
      omega
    refine g_callVE (pc := 9) (a := 55) (ci := 11) (dd d_Eng_writeField 5 rfl) v_Eng_313 o55 rfl (ev_SappS hg hfit hB (by omega) hs) rfl (by rw [hk]; decide) (Nat.le_of_ble_eq_true rfl) ⟨by rw [hR]; show 0 + cst σ (l ++ bs).length ≤ cst σ ((l ++ bs) ++ dS v).length; omega, by rw [hR]; show 0 + 70 * cst σ (l ++ bs).length ≤ 70 * cst σ ((l ++ bs) ++ dS v).length; omega⟩ rfl (fun x hx => ?_)
    have ht := cst_tr hx (show (l ++ bs).length ≤ ((l ++ bs) ++ dS v).length by omega)
    refine g_pop (pc := 12) (dd d_Eng_writeField 6 rfl) rfl ?_
    refine g_aload_n (pc := 13) (dd d_Eng_writeField 7 rfl) rfl ?_
    refine g_getr (pc := 14) (a := 0) (dd d_Eng_writeField 8 rfl) f_Eng_56 o0 rfl (hx.1.line.trans h6) ?_
    refine g_iload_n (pc := 17) (dd d_Eng_writeField 9 rfl) rfl ?_
    refine g_callVE (pc := 18) (a := 55) (ci := 11) (dd d_Eng_writeField 10 rfl) v_Eng_316 o55 rfl (ev_SappI hK hx.2.1 (by omega)) rfl (by rw [hk]; decide) (Nat.le_of_ble_eq_true rfl) ⟨by rw [hR]; show 0 + cst σ (l ++ bs).length + cst x ((l ++ bs) ++ dS v).length ≤ cst σ ((l ++ bs) ++ dS v).length; omega, by rw [hR]; show 0 + 70 * cst σ (l ++ bs).length + 70 * cst x ((l ++ bs) ++ dS v).length ≤ 70 * cst σ ((l ++ bs) ++ dS v).length; omega⟩ rfl (fun y hy => ?_)
    refine g_pop (pc := 21) (dd d_Eng_writeField 11 rfl) rfl ?_
    exact g_vretE (pc := 22) rfl (dd d_Eng_writeField 12 rfl) hT (by show 0 + cst σ (l ++ bs).length + cst x ((l ++ bs) ++ dS v).length ≤ _; omega) (by show 0 + 70 * cst σ (l ++ bs).length + 70 * cst x ((l ++ bs) ++ dS v).length ≤ _; omega) (hx.tr hy (by omega)) rfl
