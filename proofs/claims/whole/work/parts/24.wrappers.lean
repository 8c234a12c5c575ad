/-! the law's wrappers: what each answers when the call returns, and when it throws -/
theorem g_widen {Δ : Dx} {mi : MI} {Γ : Cx} {n k c k2 c2 : Nat} {σ : St} {pc : Nat} {lv : List (Option Value)} {st : List Value} (h1 : k ≤ k2) (h2 : c ≤ c2) (kk : GG Δ mi Γ n k2 c2 σ pc lv st) : GG Δ mi Γ n k c σ pc lv st := fun ok H locs ls hP hS hl => W.widen h1 h2 (kk ok H locs ls hP hS hl)
theorem cl_IAE : Cond.classLink "WardEngineLaw" 13 "java/lang/IllegalArgumentException" ∈ lw_tbl ∧ goodWord (Cond.classLink "WardEngineLaw" 13 "java/lang/IllegalArgumentException") = true := ⟨by decide +kernel, by decide +kernel⟩
theorem cy_IAE : Cond.castable "java/lang/IllegalArgumentException" "java/lang/IllegalArgumentException" ∈ lw_tbl := by decide +kernel
theorem cl_UOE : Cond.classLink "WardEngineLaw" 15 "java/lang/UnsupportedOperationException" ∈ lw_tbl ∧ goodWord (Cond.classLink "WardEngineLaw" 15 "java/lang/UnsupportedOperationException") = true := ⟨by decide +kernel, by decide +kernel⟩
theorem cy_UOE : Cond.castable "java/lang/UnsupportedOperationException" "java/lang/UnsupportedOperationException" ∈ lw_tbl := by decide +kernel
theorem cl_IOE : Cond.classLink "WardEngineLaw" 25 "java/lang/IndexOutOfBoundsException" ∈ lw_tbl ∧ goodWord (Cond.classLink "WardEngineLaw" 25 "java/lang/IndexOutOfBoundsException") = true := ⟨by decide +kernel, by decide +kernel⟩
theorem cy_IOE : Cond.castable "java/lang/IndexOutOfBoundsException" "java/lang/IndexOutOfBoundsException" ∈ lw_tbl := by decide +kernel
theorem cl_ISE : Cond.classLink "WardEngineLaw" 47 "java/lang/IllegalStateException" ∈ lw_tbl ∧ goodWord (Cond.classLink "WardEngineLaw" 47 "java/lang/IllegalStateException") = true := ⟨by decide +kernel, by decide +kernel⟩
theorem cy_ISE : Cond.castable "java/lang/IllegalStateException" "java/lang/IllegalStateException" ∈ lw_tbl := by decide +kernel
theorem cn_IAE_IOE : Cond.not (Cond.castable "java/lang/IllegalArgumentException" "java/lang/IndexOutOfBoundsException") ∈ flatC (Jvm.Cond.and given_1 narrow_1) := by decide +kernel
theorem cn_UOE_IAE : Cond.not (Cond.castable "java/lang/UnsupportedOperationException" "java/lang/IllegalArgumentException") ∈ flatC (Jvm.Cond.and given_1 narrow_1) := by decide +kernel
theorem cn_UOE_ISE : Cond.not (Cond.castable "java/lang/UnsupportedOperationException" "java/lang/IllegalStateException") ∈ flatC (Jvm.Cond.and given_1 narrow_1) := by decide +kernel
theorem cn_ISE_IAE : Cond.not (Cond.castable "java/lang/IllegalStateException" "java/lang/IllegalArgumentException") ∈ flatC (Jvm.Cond.and given_1 narrow_1) := by decide +kernel
abbrev OUT : Nat := 141
theorem ob_E : Ob NN 0 0 := ⟨by decide, rfl⟩
theorem ar_OUT : Ar NN OUT .long 1 := ⟨by decide, rfl⟩
def hs_put : List (Nat × Nat × Nat × Nat) := [(0, 9, 12, 13), (0, 9, 15, 15)]
theorem lr_put {Δ : Dx} {σ σ' : St} {j mc ms : Nat} {p0 r : Int32} (hj : j < 60) (h1 : mc ≤ 8) (h2 : ms ≤ 400) (hE : EvN Δ j m_Eng_put NN [.ref (Δ.ba + 0), .int p0] σ (some (.int r)) NN σ' mc ms) : EvX Δ 60 m_Law_put hs_put [.ref (Δ.ba + 0), .int p0, .ref (Δ.ba + OUT)] σ (some (.int 0)) (stJ σ' OUT 0 r.toInt64) 8 400 := by
  refine evX_of (by decide) (Nat.le_of_ble_eq_true rfl) (fun Γ hk hR hT _ => ?_)
  refine g_aload_n (pc := 0) (dd d_Law_put 0 rfl) rfl ?_
  refine g_iconst (pc := 1) (v := 0) (dd d_Law_put 1 rfl) (by decide) ?_
  refine g_aload_n (pc := 2) (dd d_Law_put 2 rfl) rfl ?_
  refine g_iload_n (pc := 3) (dd d_Law_put 3 rfl) rfl ?_
  refine g_callV (pc := 4) (dd d_Law_put 4 rfl) v_Law_7 ob_E rfl hE rfl (by rw [hk]; exact hj) (Nat.le_of_ble_eq_true rfl) (by rw [hR]; exact ⟨by show 0 + mc ≤ 8; omega, by show 0 + ms ≤ 400; omega⟩) rfl ?_
  refine g_widen (k2 := 8) (c2 := 400) (by omega) (by omega) ?_
  refine g_i2l (pc := 7) (dd d_Law_put 5 rfl) ?_
  refine g_last (pc := 8) (dd d_Law_put 6 rfl) ar_OUT (by rw [vp_in_iff]; decide) ?_
  refine g_goto (pc := 9) (tgt := 18) (dd d_Law_put 7 rfl) (by decide) ?_
  refine g_iconst (pc := 18) (v := 0) (dd d_Law_put 14 rfl) (by decide) ?_
  exact g_iret (pc := 19) rfl (dd d_Law_put 15 rfl) hT
theorem lt_put_IAE {Δ : Dx} {σ : St} {j : Nat} {p0 : Int32} (hj : j < 60) (hE : EvT Δ j m_Eng_put [.ref (Δ.ba + 0), .int p0] σ "java/lang/IllegalArgumentException") : EvX Δ 60 m_Law_put hs_put [.ref (Δ.ba + 0), .int p0, .ref (Δ.ba + OUT)] σ (some (.int 1)) σ 8 400 := by
  refine evX_of (by decide) (Nat.le_of_ble_eq_true rfl) (fun Γ hk hR hT hH => ?_)
  refine g_aload_n (pc := 0) (dd d_Law_put 0 rfl) rfl ?_
  refine g_iconst (pc := 1) (v := 0) (dd d_Law_put 1 rfl) (by decide) ?_
  refine g_aload_n (pc := 2) (dd d_Law_put 2 rfl) rfl ?_
  refine g_iload_n (pc := 3) (dd d_Law_put 3 rfl) rfl ?_
  refine g_callVT (pc := 4) (h := 12) (dd d_Law_put 4 rfl) v_Law_7 ob_E rfl hE rfl (by rw [hk]; exact hj) (Nat.le_of_ble_eq_true rfl) (by rw [hR]; exact ⟨by decide, by decide⟩) rfl (by rw [hH]; exact ⟨[], (0, 9, 12, 13), [(0, 9, 15, 15)], rfl, rfl, fun _ h => absurd h List.not_mem_nil, by decide, _, cl_IAE, cy_IAE⟩) (fun xx => ?_)
  refine g_widen (k2 := 8) (c2 := 400) (by decide) (by decide) ?_
  refine g_astore_n (pc := 12) (dd d_Law_put 8 rfl) (by decide) ?_
  refine g_iconst (pc := 13) (v := 1) (dd d_Law_put 9 rfl) (by decide) ?_
  exact g_iret (pc := 14) rfl (dd d_Law_put 10 rfl) hT
theorem lt_put_UOE {Δ : Dx} {σ : St} {j : Nat} {p0 : Int32} (hj : j < 60) (hE : EvT Δ j m_Eng_put [.ref (Δ.ba + 0), .int p0] σ "java/lang/UnsupportedOperationException") : EvX Δ 60 m_Law_put hs_put [.ref (Δ.ba + 0), .int p0, .ref (Δ.ba + OUT)] σ (some (.int 2)) σ 8 400 := by
  refine evX_of (by decide) (Nat.le_of_ble_eq_true rfl) (fun Γ hk hR hT hH => ?_)
  refine g_aload_n (pc := 0) (dd d_Law_put 0 rfl) rfl ?_
  refine g_iconst (pc := 1) (v := 0) (dd d_Law_put 1 rfl) (by decide) ?_
  refine g_aload_n (pc := 2) (dd d_Law_put 2 rfl) rfl ?_
  refine g_iload_n (pc := 3) (dd d_Law_put 3 rfl) rfl ?_
  refine g_callVT (pc := 4) (h := 15) (dd d_Law_put 4 rfl) v_Law_7 ob_E rfl hE rfl (by rw [hk]; exact hj) (Nat.le_of_ble_eq_true rfl) (by rw [hR]; exact ⟨by decide, by decide⟩) rfl (by rw [hH]; exact ⟨[(0, 9, 12, 13)], (0, 9, 15, 15), [], rfl, rfl, List.forall_mem_cons.mpr ⟨⟨by decide, _, cl_IAE, cn_UOE_IAE⟩, fun _ h => absurd h List.not_mem_nil⟩, by decide, _, cl_UOE, cy_UOE⟩) (fun xx => ?_)
  refine g_widen (k2 := 8) (c2 := 400) (by decide) (by decide) ?_
  refine g_astore_n (pc := 15) (dd d_Law_put 11 rfl) (by decide) ?_
  refine g_iconst (pc := 16) (v := 2) (dd d_Law_put 12 rfl) (by decide) ?_
  exact g_iret (pc := 17) rfl (dd d_Law_put 13 rfl) hT
def hs_end : List (Nat × Nat × Nat × Nat) := [(0, 5, 8, 13)]
theorem lr_end {Δ : Dx} {σ σ' : St} {j mc ms : Nat} {p0 : Int32} (hj : j < 60) (h1 : mc ≤ 8) (h2 : ms ≤ 400) (hE : EvN Δ j m_Eng_end NN [.ref (Δ.ba + 0), .int p0] σ (none) NN σ' mc ms) : EvX Δ 60 m_Law_end hs_end [.ref (Δ.ba + 0), .int p0] σ (some (.int 0)) σ' 8 400 := by
  refine evX_of (by decide) (Nat.le_of_ble_eq_true rfl) (fun Γ hk hR hT _ => ?_)
  refine g_aload_n (pc := 0) (dd d_Law_end 0 rfl) rfl ?_
  refine g_iload_n (pc := 1) (dd d_Law_end 1 rfl) rfl ?_
  refine g_callV (pc := 2) (dd d_Law_end 2 rfl) v_Law_17 ob_E rfl hE rfl (by rw [hk]; exact hj) (Nat.le_of_ble_eq_true rfl) (by rw [hR]; exact ⟨by show 0 + mc ≤ 8; omega, by show 0 + ms ≤ 400; omega⟩) rfl ?_
  refine g_widen (k2 := 8) (c2 := 400) (by omega) (by omega) ?_
  refine g_goto (pc := 5) (tgt := 11) (dd d_Law_end 3 rfl) (by decide) ?_
  refine g_iconst (pc := 11) (v := 0) (dd d_Law_end 7 rfl) (by decide) ?_
  exact g_iret (pc := 12) rfl (dd d_Law_end 8 rfl) hT
theorem lt_end_IAE {Δ : Dx} {σ : St} {j : Nat} {p0 : Int32} (hj : j < 60) (hE : EvT Δ j m_Eng_end [.ref (Δ.ba + 0), .int p0] σ "java/lang/IllegalArgumentException") : EvX Δ 60 m_Law_end hs_end [.ref (Δ.ba + 0), .int p0] σ (some (.int 1)) σ 8 400 := by
  refine evX_of (by decide) (Nat.le_of_ble_eq_true rfl) (fun Γ hk hR hT hH => ?_)
  refine g_aload_n (pc := 0) (dd d_Law_end 0 rfl) rfl ?_
  refine g_iload_n (pc := 1) (dd d_Law_end 1 rfl) rfl ?_
  refine g_callVT (pc := 2) (h := 8) (dd d_Law_end 2 rfl) v_Law_17 ob_E rfl hE rfl (by rw [hk]; exact hj) (Nat.le_of_ble_eq_true rfl) (by rw [hR]; exact ⟨by decide, by decide⟩) rfl (by rw [hH]; exact ⟨[], (0, 5, 8, 13), [], rfl, rfl, fun _ h => absurd h List.not_mem_nil, by decide, _, cl_IAE, cy_IAE⟩) (fun xx => ?_)
  refine g_widen (k2 := 8) (c2 := 400) (by decide) (by decide) ?_
  refine g_astore_n (pc := 8) (dd d_Law_end 4 rfl) (by decide) ?_
  refine g_iconst (pc := 9) (v := 1) (dd d_Law_end 5 rfl) (by decide) ?_
  exact g_iret (pc := 10) rfl (dd d_Law_end 6 rfl) hT
def hs_listing : List (Nat × Nat × Nat × Nat) := [(0, 10, 13, 25)]
theorem lr_listing {Δ : Dx} {σ σ' : St} {j mc ms : Nat} {p0 p1 r : Int32} (hj : j < 60) (h1 : mc ≤ 8) (h2 : ms ≤ 400) (hE : EvN Δ j m_Eng_listing NN [.ref (Δ.ba + 0), .int p0, .int p1] σ (some (.int r)) NN σ' mc ms) : EvX Δ 60 m_Law_listing hs_listing [.ref (Δ.ba + 0), .int p0, .int p1, .ref (Δ.ba + OUT)] σ (some (.int 0)) (stJ σ' OUT 0 r.toInt64) 8 400 := by
  refine evX_of (by decide) (Nat.le_of_ble_eq_true rfl) (fun Γ hk hR hT _ => ?_)
  refine g_aload_n (pc := 0) (dd d_Law_listing 0 rfl) rfl ?_
  refine g_iconst (pc := 1) (v := 0) (dd d_Law_listing 1 rfl) (by decide) ?_
  refine g_aload_n (pc := 2) (dd d_Law_listing 2 rfl) rfl ?_
  refine g_iload_n (pc := 3) (dd d_Law_listing 3 rfl) rfl ?_
  refine g_iload_n (pc := 4) (dd d_Law_listing 4 rfl) rfl ?_
  refine g_callV (pc := 5) (dd d_Law_listing 5 rfl) v_Law_21 ob_E rfl hE rfl (by rw [hk]; exact hj) (Nat.le_of_ble_eq_true rfl) (by rw [hR]; exact ⟨by show 0 + mc ≤ 8; omega, by show 0 + ms ≤ 400; omega⟩) rfl ?_
  refine g_widen (k2 := 8) (c2 := 400) (by omega) (by omega) ?_
  refine g_i2l (pc := 8) (dd d_Law_listing 6 rfl) ?_
  refine g_last (pc := 9) (dd d_Law_listing 7 rfl) ar_OUT (by rw [vp_in_iff]; decide) ?_
  refine g_goto (pc := 10) (tgt := 17) (dd d_Law_listing 8 rfl) (by decide) ?_
  refine g_iconst (pc := 17) (v := 0) (dd d_Law_listing 12 rfl) (by decide) ?_
  exact g_iret (pc := 18) rfl (dd d_Law_listing 13 rfl) hT
theorem lt_listing_IOE {Δ : Dx} {σ : St} {j : Nat} {p0 p1 : Int32} (hj : j < 60) (hE : EvT Δ j m_Eng_listing [.ref (Δ.ba + 0), .int p0, .int p1] σ "java/lang/IndexOutOfBoundsException") : EvX Δ 60 m_Law_listing hs_listing [.ref (Δ.ba + 0), .int p0, .int p1, .ref (Δ.ba + OUT)] σ (some (.int 1)) σ 8 400 := by
  refine evX_of (by decide) (Nat.le_of_ble_eq_true rfl) (fun Γ hk hR hT hH => ?_)
  refine g_aload_n (pc := 0) (dd d_Law_listing 0 rfl) rfl ?_
  refine g_iconst (pc := 1) (v := 0) (dd d_Law_listing 1 rfl) (by decide) ?_
  refine g_aload_n (pc := 2) (dd d_Law_listing 2 rfl) rfl ?_
  refine g_iload_n (pc := 3) (dd d_Law_listing 3 rfl) rfl ?_
  refine g_iload_n (pc := 4) (dd d_Law_listing 4 rfl) rfl ?_
  refine g_callVT (pc := 5) (h := 13) (dd d_Law_listing 5 rfl) v_Law_21 ob_E rfl hE rfl (by rw [hk]; exact hj) (Nat.le_of_ble_eq_true rfl) (by rw [hR]; exact ⟨by decide, by decide⟩) rfl (by rw [hH]; exact ⟨[], (0, 10, 13, 25), [], rfl, rfl, fun _ h => absurd h List.not_mem_nil, by decide, _, cl_IOE, cy_IOE⟩) (fun xx => ?_)
  refine g_widen (k2 := 8) (c2 := 400) (by decide) (by decide) ?_
  refine g_astore (pc := 13) (dd d_Law_listing 9 rfl) (by decide) ?_
  refine g_iconst (pc := 15) (v := 1) (dd d_Law_listing 10 rfl) (by decide) ?_
  exact g_iret (pc := 16) rfl (dd d_Law_listing 11 rfl) hT
def hs_codeOf : List (Nat × Nat × Nat × Nat) := [(0, 10, 13, 25), (0, 10, 17, 13)]
theorem lr_codeOf {Δ : Dx} {σ σ' : St} {j mc ms : Nat} {p0 p1 r : Int32} (hj : j < 60) (h1 : mc ≤ 8) (h2 : ms ≤ 400) (hE : EvN Δ j m_Eng_codeOf NN [.ref (Δ.ba + 0), .int p0, .int p1] σ (some (.int r)) NN σ' mc ms) : EvX Δ 60 m_Law_codeOf hs_codeOf [.ref (Δ.ba + 0), .int p0, .int p1, .ref (Δ.ba + OUT)] σ (some (.int 0)) (stJ σ' OUT 0 r.toInt64) 8 400 := by
  refine evX_of (by decide) (Nat.le_of_ble_eq_true rfl) (fun Γ hk hR hT _ => ?_)
  refine g_aload_n (pc := 0) (dd d_Law_codeOf 0 rfl) rfl ?_
  refine g_iconst (pc := 1) (v := 0) (dd d_Law_codeOf 1 rfl) (by decide) ?_
  refine g_aload_n (pc := 2) (dd d_Law_codeOf 2 rfl) rfl ?_
  refine g_iload_n (pc := 3) (dd d_Law_codeOf 3 rfl) rfl ?_
  refine g_iload_n (pc := 4) (dd d_Law_codeOf 4 rfl) rfl ?_
  refine g_callV (pc := 5) (dd d_Law_codeOf 5 rfl) v_Law_27 ob_E rfl hE rfl (by rw [hk]; exact hj) (Nat.le_of_ble_eq_true rfl) (by rw [hR]; exact ⟨by show 0 + mc ≤ 8; omega, by show 0 + ms ≤ 400; omega⟩) rfl ?_
  refine g_widen (k2 := 8) (c2 := 400) (by omega) (by omega) ?_
  refine g_i2l (pc := 8) (dd d_Law_codeOf 6 rfl) ?_
  refine g_last (pc := 9) (dd d_Law_codeOf 7 rfl) ar_OUT (by rw [vp_in_iff]; decide) ?_
  refine g_goto (pc := 10) (tgt := 21) (dd d_Law_codeOf 8 rfl) (by decide) ?_
  refine g_iconst (pc := 21) (v := 0) (dd d_Law_codeOf 15 rfl) (by decide) ?_
  exact g_iret (pc := 22) rfl (dd d_Law_codeOf 16 rfl) hT
theorem lt_codeOf_IOE {Δ : Dx} {σ : St} {j : Nat} {p0 p1 : Int32} (hj : j < 60) (hE : EvT Δ j m_Eng_codeOf [.ref (Δ.ba + 0), .int p0, .int p1] σ "java/lang/IndexOutOfBoundsException") : EvX Δ 60 m_Law_codeOf hs_codeOf [.ref (Δ.ba + 0), .int p0, .int p1, .ref (Δ.ba + OUT)] σ (some (.int 1)) σ 8 400 := by
  refine evX_of (by decide) (Nat.le_of_ble_eq_true rfl) (fun Γ hk hR hT hH => ?_)
  refine g_aload_n (pc := 0) (dd d_Law_codeOf 0 rfl) rfl ?_
  refine g_iconst (pc := 1) (v := 0) (dd d_Law_codeOf 1 rfl) (by decide) ?_
  refine g_aload_n (pc := 2) (dd d_Law_codeOf 2 rfl) rfl ?_
  refine g_iload_n (pc := 3) (dd d_Law_codeOf 3 rfl) rfl ?_
  refine g_iload_n (pc := 4) (dd d_Law_codeOf 4 rfl) rfl ?_
  refine g_callVT (pc := 5) (h := 13) (dd d_Law_codeOf 5 rfl) v_Law_27 ob_E rfl hE rfl (by rw [hk]; exact hj) (Nat.le_of_ble_eq_true rfl) (by rw [hR]; exact ⟨by decide, by decide⟩) rfl (by rw [hH]; exact ⟨[], (0, 10, 13, 25), [(0, 10, 17, 13)], rfl, rfl, fun _ h => absurd h List.not_mem_nil, by decide, _, cl_IOE, cy_IOE⟩) (fun xx => ?_)
  refine g_widen (k2 := 8) (c2 := 400) (by decide) (by decide) ?_
  refine g_astore (pc := 13) (dd d_Law_codeOf 9 rfl) (by decide) ?_
  refine g_iconst (pc := 15) (v := 1) (dd d_Law_codeOf 10 rfl) (by decide) ?_
  exact g_iret (pc := 16) rfl (dd d_Law_codeOf 11 rfl) hT
theorem lt_codeOf_IAE {Δ : Dx} {σ : St} {j : Nat} {p0 p1 : Int32} (hj : j < 60) (hE : EvT Δ j m_Eng_codeOf [.ref (Δ.ba + 0), .int p0, .int p1] σ "java/lang/IllegalArgumentException") : EvX Δ 60 m_Law_codeOf hs_codeOf [.ref (Δ.ba + 0), .int p0, .int p1, .ref (Δ.ba + OUT)] σ (some (.int 2)) σ 8 400 := by
  refine evX_of (by decide) (Nat.le_of_ble_eq_true rfl) (fun Γ hk hR hT hH => ?_)
  refine g_aload_n (pc := 0) (dd d_Law_codeOf 0 rfl) rfl ?_
  refine g_iconst (pc := 1) (v := 0) (dd d_Law_codeOf 1 rfl) (by decide) ?_
  refine g_aload_n (pc := 2) (dd d_Law_codeOf 2 rfl) rfl ?_
  refine g_iload_n (pc := 3) (dd d_Law_codeOf 3 rfl) rfl ?_
  refine g_iload_n (pc := 4) (dd d_Law_codeOf 4 rfl) rfl ?_
  refine g_callVT (pc := 5) (h := 17) (dd d_Law_codeOf 5 rfl) v_Law_27 ob_E rfl hE rfl (by rw [hk]; exact hj) (Nat.le_of_ble_eq_true rfl) (by rw [hR]; exact ⟨by decide, by decide⟩) rfl (by rw [hH]; exact ⟨[(0, 10, 13, 25)], (0, 10, 17, 13), [], rfl, rfl, List.forall_mem_cons.mpr ⟨⟨by decide, _, cl_IOE, cn_IAE_IOE⟩, fun _ h => absurd h List.not_mem_nil⟩, by decide, _, cl_IAE, cy_IAE⟩) (fun xx => ?_)
  refine g_widen (k2 := 8) (c2 := 400) (by decide) (by decide) ?_
  refine g_astore (pc := 17) (dd d_Law_codeOf 12 rfl) (by decide) ?_
  refine g_iconst (pc := 19) (v := 2) (dd d_Law_codeOf 13 rfl) (by decide) ?_
  exact g_iret (pc := 20) rfl (dd d_Law_codeOf 14 rfl) hT
def hs_code : List (Nat × Nat × Nat × Nat) := [(0, 7, 10, 25)]
theorem lr_code {Δ : Dx} {σ σ' : St} {j mc ms : Nat} {p0 p1 p2 : Int32} (hj : j < 60) (h1 : mc ≤ 8) (h2 : ms ≤ 400) (hE : EvN Δ j m_Eng_code NN [.ref (Δ.ba + 0), .int p0, .int p1, .int p2] σ (none) NN σ' mc ms) : EvX Δ 60 m_Law_code hs_code [.ref (Δ.ba + 0), .int p0, .int p1, .int p2] σ (some (.int 0)) σ' 8 400 := by
  refine evX_of (by decide) (Nat.le_of_ble_eq_true rfl) (fun Γ hk hR hT _ => ?_)
  refine g_aload_n (pc := 0) (dd d_Law_code 0 rfl) rfl ?_
  refine g_iload_n (pc := 1) (dd d_Law_code 1 rfl) rfl ?_
  refine g_iload_n (pc := 2) (dd d_Law_code 2 rfl) rfl ?_
  refine g_iload_n (pc := 3) (dd d_Law_code 3 rfl) rfl ?_
  refine g_callV (pc := 4) (dd d_Law_code 4 rfl) v_Law_30 ob_E rfl hE rfl (by rw [hk]; exact hj) (Nat.le_of_ble_eq_true rfl) (by rw [hR]; exact ⟨by show 0 + mc ≤ 8; omega, by show 0 + ms ≤ 400; omega⟩) rfl ?_
  refine g_widen (k2 := 8) (c2 := 400) (by omega) (by omega) ?_
  refine g_goto (pc := 7) (tgt := 14) (dd d_Law_code 5 rfl) (by decide) ?_
  refine g_iconst (pc := 14) (v := 0) (dd d_Law_code 9 rfl) (by decide) ?_
  exact g_iret (pc := 15) rfl (dd d_Law_code 10 rfl) hT
theorem lt_code_IOE {Δ : Dx} {σ : St} {j : Nat} {p0 p1 p2 : Int32} (hj : j < 60) (hE : EvT Δ j m_Eng_code [.ref (Δ.ba + 0), .int p0, .int p1, .int p2] σ "java/lang/IndexOutOfBoundsException") : EvX Δ 60 m_Law_code hs_code [.ref (Δ.ba + 0), .int p0, .int p1, .int p2] σ (some (.int 1)) σ 8 400 := by
  refine evX_of (by decide) (Nat.le_of_ble_eq_true rfl) (fun Γ hk hR hT hH => ?_)
  refine g_aload_n (pc := 0) (dd d_Law_code 0 rfl) rfl ?_
  refine g_iload_n (pc := 1) (dd d_Law_code 1 rfl) rfl ?_
  refine g_iload_n (pc := 2) (dd d_Law_code 2 rfl) rfl ?_
  refine g_iload_n (pc := 3) (dd d_Law_code 3 rfl) rfl ?_
  refine g_callVT (pc := 4) (h := 10) (dd d_Law_code 4 rfl) v_Law_30 ob_E rfl hE rfl (by rw [hk]; exact hj) (Nat.le_of_ble_eq_true rfl) (by rw [hR]; exact ⟨by decide, by decide⟩) rfl (by rw [hH]; exact ⟨[], (0, 7, 10, 25), [], rfl, rfl, fun _ h => absurd h List.not_mem_nil, by decide, _, cl_IOE, cy_IOE⟩) (fun xx => ?_)
  refine g_widen (k2 := 8) (c2 := 400) (by decide) (by decide) ?_
  refine g_astore (pc := 10) (dd d_Law_code 6 rfl) (by decide) ?_
  refine g_iconst (pc := 12) (v := 1) (dd d_Law_code 7 rfl) (by decide) ?_
  exact g_iret (pc := 13) rfl (dd d_Law_code 8 rfl) hT
def hs_word : List (Nat × Nat × Nat × Nat) := [(0, 9, 12, 25)]
theorem lr_word {Δ : Dx} {σ σ' : St} {j mc ms : Nat} {p0 p1 p2 p3 : Int32} (hj : j < 60) (h1 : mc ≤ 8) (h2 : ms ≤ 400) (hE : EvN Δ j m_Eng_word NN [.ref (Δ.ba + 0), .int p0, .int p1, .int p2, .int p3] σ (none) NN σ' mc ms) : EvX Δ 60 m_Law_word hs_word [.ref (Δ.ba + 0), .int p0, .int p1, .int p2, .int p3] σ (some (.int 0)) σ' 8 400 := by
  refine evX_of (by decide) (Nat.le_of_ble_eq_true rfl) (fun Γ hk hR hT _ => ?_)
  refine g_aload_n (pc := 0) (dd d_Law_word 0 rfl) rfl ?_
  refine g_iload_n (pc := 1) (dd d_Law_word 1 rfl) rfl ?_
  refine g_iload_n (pc := 2) (dd d_Law_word 2 rfl) rfl ?_
  refine g_iload_n (pc := 3) (dd d_Law_word 3 rfl) rfl ?_
  refine g_iload (pc := 4) (dd d_Law_word 4 rfl) rfl ?_
  refine g_callV (pc := 6) (dd d_Law_word 5 rfl) v_Law_34 ob_E rfl hE rfl (by rw [hk]; exact hj) (Nat.le_of_ble_eq_true rfl) (by rw [hR]; exact ⟨by show 0 + mc ≤ 8; omega, by show 0 + ms ≤ 400; omega⟩) rfl ?_
  refine g_widen (k2 := 8) (c2 := 400) (by omega) (by omega) ?_
  refine g_goto (pc := 9) (tgt := 16) (dd d_Law_word 6 rfl) (by decide) ?_
  refine g_iconst (pc := 16) (v := 0) (dd d_Law_word 10 rfl) (by decide) ?_
  exact g_iret (pc := 17) rfl (dd d_Law_word 11 rfl) hT
theorem lt_word_IOE {Δ : Dx} {σ : St} {j : Nat} {p0 p1 p2 p3 : Int32} (hj : j < 60) (hE : EvT Δ j m_Eng_word [.ref (Δ.ba + 0), .int p0, .int p1, .int p2, .int p3] σ "java/lang/IndexOutOfBoundsException") : EvX Δ 60 m_Law_word hs_word [.ref (Δ.ba + 0), .int p0, .int p1, .int p2, .int p3] σ (some (.int 1)) σ 8 400 := by
  refine evX_of (by decide) (Nat.le_of_ble_eq_true rfl) (fun Γ hk hR hT hH => ?_)
  refine g_aload_n (pc := 0) (dd d_Law_word 0 rfl) rfl ?_
  refine g_iload_n (pc := 1) (dd d_Law_word 1 rfl) rfl ?_
  refine g_iload_n (pc := 2) (dd d_Law_word 2 rfl) rfl ?_
  refine g_iload_n (pc := 3) (dd d_Law_word 3 rfl) rfl ?_
  refine g_iload (pc := 4) (dd d_Law_word 4 rfl) rfl ?_
  refine g_callVT (pc := 6) (h := 12) (dd d_Law_word 5 rfl) v_Law_34 ob_E rfl hE rfl (by rw [hk]; exact hj) (Nat.le_of_ble_eq_true rfl) (by rw [hR]; exact ⟨by decide, by decide⟩) rfl (by rw [hH]; exact ⟨[], (0, 9, 12, 25), [], rfl, rfl, fun _ h => absurd h List.not_mem_nil, by decide, _, cl_IOE, cy_IOE⟩) (fun xx => ?_)
  refine g_widen (k2 := 8) (c2 := 400) (by decide) (by decide) ?_
  refine g_astore (pc := 12) (dd d_Law_word 7 rfl) (by decide) ?_
  refine g_iconst (pc := 14) (v := 1) (dd d_Law_word 8 rfl) (by decide) ?_
  exact g_iret (pc := 15) rfl (dd d_Law_word 9 rfl) hT
def hs_register : List (Nat × Nat × Nat × Nat) := [(0, 7, 10, 25)]
theorem lr_register {Δ : Dx} {σ σ' : St} {j mc ms : Nat} {p0 p1 p2 : Int32} (hj : j < 60) (h1 : mc ≤ 8) (h2 : ms ≤ 400) (hE : EvN Δ j m_Eng_register NN [.ref (Δ.ba + 0), .int p0, .int p1, .int p2] σ (none) NN σ' mc ms) : EvX Δ 60 m_Law_register hs_register [.ref (Δ.ba + 0), .int p0, .int p1, .int p2] σ (some (.int 0)) σ' 8 400 := by
  refine evX_of (by decide) (Nat.le_of_ble_eq_true rfl) (fun Γ hk hR hT _ => ?_)
  refine g_aload_n (pc := 0) (dd d_Law_register 0 rfl) rfl ?_
  refine g_iload_n (pc := 1) (dd d_Law_register 1 rfl) rfl ?_
  refine g_iload_n (pc := 2) (dd d_Law_register 2 rfl) rfl ?_
  refine g_iload_n (pc := 3) (dd d_Law_register 3 rfl) rfl ?_
  refine g_callV (pc := 4) (dd d_Law_register 4 rfl) v_Law_38 ob_E rfl hE rfl (by rw [hk]; exact hj) (Nat.le_of_ble_eq_true rfl) (by rw [hR]; exact ⟨by show 0 + mc ≤ 8; omega, by show 0 + ms ≤ 400; omega⟩) rfl ?_
  refine g_widen (k2 := 8) (c2 := 400) (by omega) (by omega) ?_
  refine g_goto (pc := 7) (tgt := 14) (dd d_Law_register 5 rfl) (by decide) ?_
  refine g_iconst (pc := 14) (v := 0) (dd d_Law_register 9 rfl) (by decide) ?_
  exact g_iret (pc := 15) rfl (dd d_Law_register 10 rfl) hT
theorem lt_register_IOE {Δ : Dx} {σ : St} {j : Nat} {p0 p1 p2 : Int32} (hj : j < 60) (hE : EvT Δ j m_Eng_register [.ref (Δ.ba + 0), .int p0, .int p1, .int p2] σ "java/lang/IndexOutOfBoundsException") : EvX Δ 60 m_Law_register hs_register [.ref (Δ.ba + 0), .int p0, .int p1, .int p2] σ (some (.int 1)) σ 8 400 := by
  refine evX_of (by decide) (Nat.le_of_ble_eq_true rfl) (fun Γ hk hR hT hH => ?_)
  refine g_aload_n (pc := 0) (dd d_Law_register 0 rfl) rfl ?_
  refine g_iload_n (pc := 1) (dd d_Law_register 1 rfl) rfl ?_
  refine g_iload_n (pc := 2) (dd d_Law_register 2 rfl) rfl ?_
  refine g_iload_n (pc := 3) (dd d_Law_register 3 rfl) rfl ?_
  refine g_callVT (pc := 4) (h := 10) (dd d_Law_register 4 rfl) v_Law_38 ob_E rfl hE rfl (by rw [hk]; exact hj) (Nat.le_of_ble_eq_true rfl) (by rw [hR]; exact ⟨by decide, by decide⟩) rfl (by rw [hH]; exact ⟨[], (0, 7, 10, 25), [], rfl, rfl, fun _ h => absurd h List.not_mem_nil, by decide, _, cl_IOE, cy_IOE⟩) (fun xx => ?_)
  refine g_widen (k2 := 8) (c2 := 400) (by decide) (by decide) ?_
  refine g_astore (pc := 10) (dd d_Law_register 6 rfl) (by decide) ?_
  refine g_iconst (pc := 12) (v := 1) (dd d_Law_register 7 rfl) (by decide) ?_
  exact g_iret (pc := 13) rfl (dd d_Law_register 8 rfl) hT
def hs_input : List (Nat × Nat × Nat × Nat) := [(0, 10, 13, 15)]
theorem lr_input {Δ : Dx} {σ σ' : St} {j mc ms : Nat} {p0 p1 r : Int32} (hj : j < 60) (h1 : mc ≤ 8) (h2 : ms ≤ 400) (hE : EvN Δ j m_Eng_input NN [.ref (Δ.ba + 0), .int p0, .int p1] σ (some (.int r)) NN σ' mc ms) : EvX Δ 60 m_Law_input hs_input [.ref (Δ.ba + 0), .int p0, .int p1, .ref (Δ.ba + OUT)] σ (some (.int 0)) (stJ σ' OUT 0 r.toInt64) 8 400 := by
  refine evX_of (by decide) (Nat.le_of_ble_eq_true rfl) (fun Γ hk hR hT _ => ?_)
  refine g_aload_n (pc := 0) (dd d_Law_input 0 rfl) rfl ?_
  refine g_iconst (pc := 1) (v := 0) (dd d_Law_input 1 rfl) (by decide) ?_
  refine g_aload_n (pc := 2) (dd d_Law_input 2 rfl) rfl ?_
  refine g_iload_n (pc := 3) (dd d_Law_input 3 rfl) rfl ?_
  refine g_iload_n (pc := 4) (dd d_Law_input 4 rfl) rfl ?_
  refine g_callV (pc := 5) (dd d_Law_input 5 rfl) v_Law_41 ob_E rfl hE rfl (by rw [hk]; exact hj) (Nat.le_of_ble_eq_true rfl) (by rw [hR]; exact ⟨by show 0 + mc ≤ 8; omega, by show 0 + ms ≤ 400; omega⟩) rfl ?_
  refine g_widen (k2 := 8) (c2 := 400) (by omega) (by omega) ?_
  refine g_i2l (pc := 8) (dd d_Law_input 6 rfl) ?_
  refine g_last (pc := 9) (dd d_Law_input 7 rfl) ar_OUT (by rw [vp_in_iff]; decide) ?_
  refine g_goto (pc := 10) (tgt := 17) (dd d_Law_input 8 rfl) (by decide) ?_
  refine g_iconst (pc := 17) (v := 0) (dd d_Law_input 12 rfl) (by decide) ?_
  exact g_iret (pc := 18) rfl (dd d_Law_input 13 rfl) hT
theorem lt_input_UOE {Δ : Dx} {σ : St} {j : Nat} {p0 p1 : Int32} (hj : j < 60) (hE : EvT Δ j m_Eng_input [.ref (Δ.ba + 0), .int p0, .int p1] σ "java/lang/UnsupportedOperationException") : EvX Δ 60 m_Law_input hs_input [.ref (Δ.ba + 0), .int p0, .int p1, .ref (Δ.ba + OUT)] σ (some (.int 1)) σ 8 400 := by
  refine evX_of (by decide) (Nat.le_of_ble_eq_true rfl) (fun Γ hk hR hT hH => ?_)
  refine g_aload_n (pc := 0) (dd d_Law_input 0 rfl) rfl ?_
  refine g_iconst (pc := 1) (v := 0) (dd d_Law_input 1 rfl) (by decide) ?_
  refine g_aload_n (pc := 2) (dd d_Law_input 2 rfl) rfl ?_
  refine g_iload_n (pc := 3) (dd d_Law_input 3 rfl) rfl ?_
  refine g_iload_n (pc := 4) (dd d_Law_input 4 rfl) rfl ?_
  refine g_callVT (pc := 5) (h := 13) (dd d_Law_input 5 rfl) v_Law_41 ob_E rfl hE rfl (by rw [hk]; exact hj) (Nat.le_of_ble_eq_true rfl) (by rw [hR]; exact ⟨by decide, by decide⟩) rfl (by rw [hH]; exact ⟨[], (0, 10, 13, 15), [], rfl, rfl, fun _ h => absurd h List.not_mem_nil, by decide, _, cl_UOE, cy_UOE⟩) (fun xx => ?_)
  refine g_widen (k2 := 8) (c2 := 400) (by decide) (by decide) ?_
  refine g_astore (pc := 13) (dd d_Law_input 9 rfl) (by decide) ?_
  refine g_iconst (pc := 15) (v := 1) (dd d_Law_input 10 rfl) (by decide) ?_
  exact g_iret (pc := 16) rfl (dd d_Law_input 11 rfl) hT
def hs_run : List (Nat × Nat × Nat × Nat) := [(0, 9, 12, 13), (0, 9, 15, 47)]
theorem lr_run {Δ : Dx} {σ σ' : St} {j mc ms : Nat} {p0 r : Int32} (hj : j < 60) (h1 : mc ≤ 8) (h2 : ms ≤ 400) (hE : EvN Δ j m_Eng_run NN [.ref (Δ.ba + 0), .int p0] σ (some (.int r)) NN σ' mc ms) : EvX Δ 60 m_Law_run hs_run [.ref (Δ.ba + 0), .int p0, .ref (Δ.ba + OUT)] σ (some (.int 0)) (stJ σ' OUT 0 r.toInt64) 8 400 := by
  refine evX_of (by decide) (Nat.le_of_ble_eq_true rfl) (fun Γ hk hR hT _ => ?_)
  refine g_aload_n (pc := 0) (dd d_Law_run 0 rfl) rfl ?_
  refine g_iconst (pc := 1) (v := 0) (dd d_Law_run 1 rfl) (by decide) ?_
  refine g_aload_n (pc := 2) (dd d_Law_run 2 rfl) rfl ?_
  refine g_iload_n (pc := 3) (dd d_Law_run 3 rfl) rfl ?_
  refine g_callV (pc := 4) (dd d_Law_run 4 rfl) v_Law_44 ob_E rfl hE rfl (by rw [hk]; exact hj) (Nat.le_of_ble_eq_true rfl) (by rw [hR]; exact ⟨by show 0 + mc ≤ 8; omega, by show 0 + ms ≤ 400; omega⟩) rfl ?_
  refine g_widen (k2 := 8) (c2 := 400) (by omega) (by omega) ?_
  refine g_i2l (pc := 7) (dd d_Law_run 5 rfl) ?_
  refine g_last (pc := 8) (dd d_Law_run 6 rfl) ar_OUT (by rw [vp_in_iff]; decide) ?_
  refine g_goto (pc := 9) (tgt := 18) (dd d_Law_run 7 rfl) (by decide) ?_
  refine g_iconst (pc := 18) (v := 0) (dd d_Law_run 14 rfl) (by decide) ?_
  exact g_iret (pc := 19) rfl (dd d_Law_run 15 rfl) hT
theorem lt_run_IAE {Δ : Dx} {σ : St} {j : Nat} {p0 : Int32} (hj : j < 60) (hE : EvT Δ j m_Eng_run [.ref (Δ.ba + 0), .int p0] σ "java/lang/IllegalArgumentException") : EvX Δ 60 m_Law_run hs_run [.ref (Δ.ba + 0), .int p0, .ref (Δ.ba + OUT)] σ (some (.int 1)) σ 8 400 := by
  refine evX_of (by decide) (Nat.le_of_ble_eq_true rfl) (fun Γ hk hR hT hH => ?_)
  refine g_aload_n (pc := 0) (dd d_Law_run 0 rfl) rfl ?_
  refine g_iconst (pc := 1) (v := 0) (dd d_Law_run 1 rfl) (by decide) ?_
  refine g_aload_n (pc := 2) (dd d_Law_run 2 rfl) rfl ?_
  refine g_iload_n (pc := 3) (dd d_Law_run 3 rfl) rfl ?_
  refine g_callVT (pc := 4) (h := 12) (dd d_Law_run 4 rfl) v_Law_44 ob_E rfl hE rfl (by rw [hk]; exact hj) (Nat.le_of_ble_eq_true rfl) (by rw [hR]; exact ⟨by decide, by decide⟩) rfl (by rw [hH]; exact ⟨[], (0, 9, 12, 13), [(0, 9, 15, 47)], rfl, rfl, fun _ h => absurd h List.not_mem_nil, by decide, _, cl_IAE, cy_IAE⟩) (fun xx => ?_)
  refine g_widen (k2 := 8) (c2 := 400) (by decide) (by decide) ?_
  refine g_astore_n (pc := 12) (dd d_Law_run 8 rfl) (by decide) ?_
  refine g_iconst (pc := 13) (v := 1) (dd d_Law_run 9 rfl) (by decide) ?_
  exact g_iret (pc := 14) rfl (dd d_Law_run 10 rfl) hT
theorem lt_run_ISE {Δ : Dx} {σ : St} {j : Nat} {p0 : Int32} (hj : j < 60) (hE : EvT Δ j m_Eng_run [.ref (Δ.ba + 0), .int p0] σ "java/lang/IllegalStateException") : EvX Δ 60 m_Law_run hs_run [.ref (Δ.ba + 0), .int p0, .ref (Δ.ba + OUT)] σ (some (.int 2)) σ 8 400 := by
  refine evX_of (by decide) (Nat.le_of_ble_eq_true rfl) (fun Γ hk hR hT hH => ?_)
  refine g_aload_n (pc := 0) (dd d_Law_run 0 rfl) rfl ?_
  refine g_iconst (pc := 1) (v := 0) (dd d_Law_run 1 rfl) (by decide) ?_
  refine g_aload_n (pc := 2) (dd d_Law_run 2 rfl) rfl ?_
  refine g_iload_n (pc := 3) (dd d_Law_run 3 rfl) rfl ?_
  refine g_callVT (pc := 4) (h := 15) (dd d_Law_run 4 rfl) v_Law_44 ob_E rfl hE rfl (by rw [hk]; exact hj) (Nat.le_of_ble_eq_true rfl) (by rw [hR]; exact ⟨by decide, by decide⟩) rfl (by rw [hH]; exact ⟨[(0, 9, 12, 13)], (0, 9, 15, 47), [], rfl, rfl, List.forall_mem_cons.mpr ⟨⟨by decide, _, cl_IAE, cn_ISE_IAE⟩, fun _ h => absurd h List.not_mem_nil⟩, by decide, _, cl_ISE, cy_ISE⟩) (fun xx => ?_)
  refine g_widen (k2 := 8) (c2 := 400) (by decide) (by decide) ?_
  refine g_astore_n (pc := 15) (dd d_Law_run 11 rfl) (by decide) ?_
  refine g_iconst (pc := 16) (v := 2) (dd d_Law_run 12 rfl) (by decide) ?_
  exact g_iret (pc := 17) rfl (dd d_Law_run 13 rfl) hT
def hs_state : List (Nat × Nat × Nat × Nat) := [(0, 9, 12, 13)]
theorem lr_state {Δ : Dx} {σ σ' : St} {j mc ms : Nat} {p0 r : Int32} (hj : j < 60) (h1 : mc ≤ 8) (h2 : ms ≤ 400) (hE : EvN Δ j m_Eng_state NN [.ref (Δ.ba + 0), .int p0] σ (some (.int r)) NN σ' mc ms) : EvX Δ 60 m_Law_state hs_state [.ref (Δ.ba + 0), .int p0, .ref (Δ.ba + OUT)] σ (some (.int 0)) (stJ σ' OUT 0 r.toInt64) 8 400 := by
  refine evX_of (by decide) (Nat.le_of_ble_eq_true rfl) (fun Γ hk hR hT _ => ?_)
  refine g_aload_n (pc := 0) (dd d_Law_state 0 rfl) rfl ?_
  refine g_iconst (pc := 1) (v := 0) (dd d_Law_state 1 rfl) (by decide) ?_
  refine g_aload_n (pc := 2) (dd d_Law_state 2 rfl) rfl ?_
  refine g_iload_n (pc := 3) (dd d_Law_state 3 rfl) rfl ?_
  refine g_callV (pc := 4) (dd d_Law_state 4 rfl) v_Law_49 ob_E rfl hE rfl (by rw [hk]; exact hj) (Nat.le_of_ble_eq_true rfl) (by rw [hR]; exact ⟨by show 0 + mc ≤ 8; omega, by show 0 + ms ≤ 400; omega⟩) rfl ?_
  refine g_widen (k2 := 8) (c2 := 400) (by omega) (by omega) ?_
  refine g_i2l (pc := 7) (dd d_Law_state 5 rfl) ?_
  refine g_last (pc := 8) (dd d_Law_state 6 rfl) ar_OUT (by rw [vp_in_iff]; decide) ?_
  refine g_goto (pc := 9) (tgt := 15) (dd d_Law_state 7 rfl) (by decide) ?_
  refine g_iconst (pc := 15) (v := 0) (dd d_Law_state 11 rfl) (by decide) ?_
  exact g_iret (pc := 16) rfl (dd d_Law_state 12 rfl) hT
theorem lt_state_IAE {Δ : Dx} {σ : St} {j : Nat} {p0 : Int32} (hj : j < 60) (hE : EvT Δ j m_Eng_state [.ref (Δ.ba + 0), .int p0] σ "java/lang/IllegalArgumentException") : EvX Δ 60 m_Law_state hs_state [.ref (Δ.ba + 0), .int p0, .ref (Δ.ba + OUT)] σ (some (.int 1)) σ 8 400 := by
  refine evX_of (by decide) (Nat.le_of_ble_eq_true rfl) (fun Γ hk hR hT hH => ?_)
  refine g_aload_n (pc := 0) (dd d_Law_state 0 rfl) rfl ?_
  refine g_iconst (pc := 1) (v := 0) (dd d_Law_state 1 rfl) (by decide) ?_
  refine g_aload_n (pc := 2) (dd d_Law_state 2 rfl) rfl ?_
  refine g_iload_n (pc := 3) (dd d_Law_state 3 rfl) rfl ?_
  refine g_callVT (pc := 4) (h := 12) (dd d_Law_state 4 rfl) v_Law_49 ob_E rfl hE rfl (by rw [hk]; exact hj) (Nat.le_of_ble_eq_true rfl) (by rw [hR]; exact ⟨by decide, by decide⟩) rfl (by rw [hH]; exact ⟨[], (0, 9, 12, 13), [], rfl, rfl, fun _ h => absurd h List.not_mem_nil, by decide, _, cl_IAE, cy_IAE⟩) (fun xx => ?_)
  refine g_widen (k2 := 8) (c2 := 400) (by decide) (by decide) ?_
  refine g_astore_n (pc := 12) (dd d_Law_state 8 rfl) (by decide) ?_
  refine g_iconst (pc := 13) (v := 1) (dd d_Law_state 9 rfl) (by decide) ?_
  exact g_iret (pc := 14) rfl (dd d_Law_state 10 rfl) hT
def hs_registerOf : List (Nat × Nat × Nat × Nat) := [(0, 10, 13, 25), (0, 10, 17, 13)]
theorem lr_registerOf {Δ : Dx} {σ σ' : St} {j mc ms : Nat} {p0 p1 r : Int32} (hj : j < 60) (h1 : mc ≤ 8) (h2 : ms ≤ 400) (hE : EvN Δ j m_Eng_registerOf NN [.ref (Δ.ba + 0), .int p0, .int p1] σ (some (.int r)) NN σ' mc ms) : EvX Δ 60 m_Law_registerOf hs_registerOf [.ref (Δ.ba + 0), .int p0, .int p1, .ref (Δ.ba + OUT)] σ (some (.int 0)) (stJ σ' OUT 0 r.toInt64) 8 400 := by
  refine evX_of (by decide) (Nat.le_of_ble_eq_true rfl) (fun Γ hk hR hT _ => ?_)
  refine g_aload_n (pc := 0) (dd d_Law_registerOf 0 rfl) rfl ?_
  refine g_iconst (pc := 1) (v := 0) (dd d_Law_registerOf 1 rfl) (by decide) ?_
  refine g_aload_n (pc := 2) (dd d_Law_registerOf 2 rfl) rfl ?_
  refine g_iload_n (pc := 3) (dd d_Law_registerOf 3 rfl) rfl ?_
  refine g_iload_n (pc := 4) (dd d_Law_registerOf 4 rfl) rfl ?_
  refine g_callV (pc := 5) (dd d_Law_registerOf 5 rfl) v_Law_52 ob_E rfl hE rfl (by rw [hk]; exact hj) (Nat.le_of_ble_eq_true rfl) (by rw [hR]; exact ⟨by show 0 + mc ≤ 8; omega, by show 0 + ms ≤ 400; omega⟩) rfl ?_
  refine g_widen (k2 := 8) (c2 := 400) (by omega) (by omega) ?_
  refine g_i2l (pc := 8) (dd d_Law_registerOf 6 rfl) ?_
  refine g_last (pc := 9) (dd d_Law_registerOf 7 rfl) ar_OUT (by rw [vp_in_iff]; decide) ?_
  refine g_goto (pc := 10) (tgt := 21) (dd d_Law_registerOf 8 rfl) (by decide) ?_
  refine g_iconst (pc := 21) (v := 0) (dd d_Law_registerOf 15 rfl) (by decide) ?_
  exact g_iret (pc := 22) rfl (dd d_Law_registerOf 16 rfl) hT
theorem lt_registerOf_IOE {Δ : Dx} {σ : St} {j : Nat} {p0 p1 : Int32} (hj : j < 60) (hE : EvT Δ j m_Eng_registerOf [.ref (Δ.ba + 0), .int p0, .int p1] σ "java/lang/IndexOutOfBoundsException") : EvX Δ 60 m_Law_registerOf hs_registerOf [.ref (Δ.ba + 0), .int p0, .int p1, .ref (Δ.ba + OUT)] σ (some (.int 1)) σ 8 400 := by
  refine evX_of (by decide) (Nat.le_of_ble_eq_true rfl) (fun Γ hk hR hT hH => ?_)
  refine g_aload_n (pc := 0) (dd d_Law_registerOf 0 rfl) rfl ?_
  refine g_iconst (pc := 1) (v := 0) (dd d_Law_registerOf 1 rfl) (by decide) ?_
  refine g_aload_n (pc := 2) (dd d_Law_registerOf 2 rfl) rfl ?_
  refine g_iload_n (pc := 3) (dd d_Law_registerOf 3 rfl) rfl ?_
  refine g_iload_n (pc := 4) (dd d_Law_registerOf 4 rfl) rfl ?_
  refine g_callVT (pc := 5) (h := 13) (dd d_Law_registerOf 5 rfl) v_Law_52 ob_E rfl hE rfl (by rw [hk]; exact hj) (Nat.le_of_ble_eq_true rfl) (by rw [hR]; exact ⟨by decide, by decide⟩) rfl (by rw [hH]; exact ⟨[], (0, 10, 13, 25), [(0, 10, 17, 13)], rfl, rfl, fun _ h => absurd h List.not_mem_nil, by decide, _, cl_IOE, cy_IOE⟩) (fun xx => ?_)
  refine g_widen (k2 := 8) (c2 := 400) (by decide) (by decide) ?_
  refine g_astore (pc := 13) (dd d_Law_registerOf 9 rfl) (by decide) ?_
  refine g_iconst (pc := 15) (v := 1) (dd d_Law_registerOf 10 rfl) (by decide) ?_
  exact g_iret (pc := 16) rfl (dd d_Law_registerOf 11 rfl) hT
theorem lt_registerOf_IAE {Δ : Dx} {σ : St} {j : Nat} {p0 p1 : Int32} (hj : j < 60) (hE : EvT Δ j m_Eng_registerOf [.ref (Δ.ba + 0), .int p0, .int p1] σ "java/lang/IllegalArgumentException") : EvX Δ 60 m_Law_registerOf hs_registerOf [.ref (Δ.ba + 0), .int p0, .int p1, .ref (Δ.ba + OUT)] σ (some (.int 2)) σ 8 400 := by
  refine evX_of (by decide) (Nat.le_of_ble_eq_true rfl) (fun Γ hk hR hT hH => ?_)
  refine g_aload_n (pc := 0) (dd d_Law_registerOf 0 rfl) rfl ?_
  refine g_iconst (pc := 1) (v := 0) (dd d_Law_registerOf 1 rfl) (by decide) ?_
  refine g_aload_n (pc := 2) (dd d_Law_registerOf 2 rfl) rfl ?_
  refine g_iload_n (pc := 3) (dd d_Law_registerOf 3 rfl) rfl ?_
  refine g_iload_n (pc := 4) (dd d_Law_registerOf 4 rfl) rfl ?_
  refine g_callVT (pc := 5) (h := 17) (dd d_Law_registerOf 5 rfl) v_Law_52 ob_E rfl hE rfl (by rw [hk]; exact hj) (Nat.le_of_ble_eq_true rfl) (by rw [hR]; exact ⟨by decide, by decide⟩) rfl (by rw [hH]; exact ⟨[(0, 10, 13, 25)], (0, 10, 17, 13), [], rfl, rfl, List.forall_mem_cons.mpr ⟨⟨by decide, _, cl_IOE, cn_IAE_IOE⟩, fun _ h => absurd h List.not_mem_nil⟩, by decide, _, cl_IAE, cy_IAE⟩) (fun xx => ?_)
  refine g_widen (k2 := 8) (c2 := 400) (by decide) (by decide) ?_
  refine g_astore (pc := 17) (dd d_Law_registerOf 12 rfl) (by decide) ?_
  refine g_iconst (pc := 19) (v := 2) (dd d_Law_registerOf 13 rfl) (by decide) ?_
  exact g_iret (pc := 20) rfl (dd d_Law_registerOf 14 rfl) hT
def hs_wordOf : List (Nat × Nat × Nat × Nat) := [(0, 10, 13, 25), (0, 10, 17, 13)]
theorem lr_wordOf {Δ : Dx} {σ σ' : St} {j mc ms : Nat} {p0 p1 r : Int32} (hj : j < 60) (h1 : mc ≤ 8) (h2 : ms ≤ 400) (hE : EvN Δ j m_Eng_wordOf NN [.ref (Δ.ba + 0), .int p0, .int p1] σ (some (.int r)) NN σ' mc ms) : EvX Δ 60 m_Law_wordOf hs_wordOf [.ref (Δ.ba + 0), .int p0, .int p1, .ref (Δ.ba + OUT)] σ (some (.int 0)) (stJ σ' OUT 0 r.toInt64) 8 400 := by
  refine evX_of (by decide) (Nat.le_of_ble_eq_true rfl) (fun Γ hk hR hT _ => ?_)
  refine g_aload_n (pc := 0) (dd d_Law_wordOf 0 rfl) rfl ?_
  refine g_iconst (pc := 1) (v := 0) (dd d_Law_wordOf 1 rfl) (by decide) ?_
  refine g_aload_n (pc := 2) (dd d_Law_wordOf 2 rfl) rfl ?_
  refine g_iload_n (pc := 3) (dd d_Law_wordOf 3 rfl) rfl ?_
  refine g_iload_n (pc := 4) (dd d_Law_wordOf 4 rfl) rfl ?_
  refine g_callV (pc := 5) (dd d_Law_wordOf 5 rfl) v_Law_55 ob_E rfl hE rfl (by rw [hk]; exact hj) (Nat.le_of_ble_eq_true rfl) (by rw [hR]; exact ⟨by show 0 + mc ≤ 8; omega, by show 0 + ms ≤ 400; omega⟩) rfl ?_
  refine g_widen (k2 := 8) (c2 := 400) (by omega) (by omega) ?_
  refine g_i2l (pc := 8) (dd d_Law_wordOf 6 rfl) ?_
  refine g_last (pc := 9) (dd d_Law_wordOf 7 rfl) ar_OUT (by rw [vp_in_iff]; decide) ?_
  refine g_goto (pc := 10) (tgt := 21) (dd d_Law_wordOf 8 rfl) (by decide) ?_
  refine g_iconst (pc := 21) (v := 0) (dd d_Law_wordOf 15 rfl) (by decide) ?_
  exact g_iret (pc := 22) rfl (dd d_Law_wordOf 16 rfl) hT
theorem lt_wordOf_IOE {Δ : Dx} {σ : St} {j : Nat} {p0 p1 : Int32} (hj : j < 60) (hE : EvT Δ j m_Eng_wordOf [.ref (Δ.ba + 0), .int p0, .int p1] σ "java/lang/IndexOutOfBoundsException") : EvX Δ 60 m_Law_wordOf hs_wordOf [.ref (Δ.ba + 0), .int p0, .int p1, .ref (Δ.ba + OUT)] σ (some (.int 1)) σ 8 400 := by
  refine evX_of (by decide) (Nat.le_of_ble_eq_true rfl) (fun Γ hk hR hT hH => ?_)
  refine g_aload_n (pc := 0) (dd d_Law_wordOf 0 rfl) rfl ?_
  refine g_iconst (pc := 1) (v := 0) (dd d_Law_wordOf 1 rfl) (by decide) ?_
  refine g_aload_n (pc := 2) (dd d_Law_wordOf 2 rfl) rfl ?_
  refine g_iload_n (pc := 3) (dd d_Law_wordOf 3 rfl) rfl ?_
  refine g_iload_n (pc := 4) (dd d_Law_wordOf 4 rfl) rfl ?_
  refine g_callVT (pc := 5) (h := 13) (dd d_Law_wordOf 5 rfl) v_Law_55 ob_E rfl hE rfl (by rw [hk]; exact hj) (Nat.le_of_ble_eq_true rfl) (by rw [hR]; exact ⟨by decide, by decide⟩) rfl (by rw [hH]; exact ⟨[], (0, 10, 13, 25), [(0, 10, 17, 13)], rfl, rfl, fun _ h => absurd h List.not_mem_nil, by decide, _, cl_IOE, cy_IOE⟩) (fun xx => ?_)
  refine g_widen (k2 := 8) (c2 := 400) (by decide) (by decide) ?_
  refine g_astore (pc := 13) (dd d_Law_wordOf 9 rfl) (by decide) ?_
  refine g_iconst (pc := 15) (v := 1) (dd d_Law_wordOf 10 rfl) (by decide) ?_
  exact g_iret (pc := 16) rfl (dd d_Law_wordOf 11 rfl) hT
theorem lt_wordOf_IAE {Δ : Dx} {σ : St} {j : Nat} {p0 p1 : Int32} (hj : j < 60) (hE : EvT Δ j m_Eng_wordOf [.ref (Δ.ba + 0), .int p0, .int p1] σ "java/lang/IllegalArgumentException") : EvX Δ 60 m_Law_wordOf hs_wordOf [.ref (Δ.ba + 0), .int p0, .int p1, .ref (Δ.ba + OUT)] σ (some (.int 2)) σ 8 400 := by
  refine evX_of (by decide) (Nat.le_of_ble_eq_true rfl) (fun Γ hk hR hT hH => ?_)
  refine g_aload_n (pc := 0) (dd d_Law_wordOf 0 rfl) rfl ?_
  refine g_iconst (pc := 1) (v := 0) (dd d_Law_wordOf 1 rfl) (by decide) ?_
  refine g_aload_n (pc := 2) (dd d_Law_wordOf 2 rfl) rfl ?_
  refine g_iload_n (pc := 3) (dd d_Law_wordOf 3 rfl) rfl ?_
  refine g_iload_n (pc := 4) (dd d_Law_wordOf 4 rfl) rfl ?_
  refine g_callVT (pc := 5) (h := 17) (dd d_Law_wordOf 5 rfl) v_Law_55 ob_E rfl hE rfl (by rw [hk]; exact hj) (Nat.le_of_ble_eq_true rfl) (by rw [hR]; exact ⟨by decide, by decide⟩) rfl (by rw [hH]; exact ⟨[(0, 10, 13, 25)], (0, 10, 17, 13), [], rfl, rfl, List.forall_mem_cons.mpr ⟨⟨by decide, _, cl_IOE, cn_IAE_IOE⟩, fun _ h => absurd h List.not_mem_nil⟩, by decide, _, cl_IAE, cy_IAE⟩) (fun xx => ?_)
  refine g_widen (k2 := 8) (c2 := 400) (by decide) (by decide) ?_
  refine g_astore (pc := 17) (dd d_Law_wordOf 12 rfl) (by decide) ?_
  refine g_iconst (pc := 19) (v := 2) (dd d_Law_wordOf 13 rfl) (by decide) ?_
  exact g_iret (pc := 20) rfl (dd d_Law_wordOf 14 rfl) hT
def hs_output : List (Nat × Nat × Nat × Nat) := [(0, 9, 12, 25)]
theorem lr_output {Δ : Dx} {σ σ' : St} {j mc ms : Nat} {p0 r : Int32} (hj : j < 60) (h1 : mc ≤ 8) (h2 : ms ≤ 400) (hE : EvN Δ j m_Eng_output NN [.ref (Δ.ba + 0), .int p0] σ (some (.int r)) NN σ' mc ms) : EvX Δ 60 m_Law_output hs_output [.ref (Δ.ba + 0), .int p0, .ref (Δ.ba + OUT)] σ (some (.int 0)) (stJ σ' OUT 0 r.toInt64) 8 400 := by
  refine evX_of (by decide) (Nat.le_of_ble_eq_true rfl) (fun Γ hk hR hT _ => ?_)
  refine g_aload_n (pc := 0) (dd d_Law_output 0 rfl) rfl ?_
  refine g_iconst (pc := 1) (v := 0) (dd d_Law_output 1 rfl) (by decide) ?_
  refine g_aload_n (pc := 2) (dd d_Law_output 2 rfl) rfl ?_
  refine g_iload_n (pc := 3) (dd d_Law_output 3 rfl) rfl ?_
  refine g_callV (pc := 4) (dd d_Law_output 4 rfl) v_Law_58 ob_E rfl hE rfl (by rw [hk]; exact hj) (Nat.le_of_ble_eq_true rfl) (by rw [hR]; exact ⟨by show 0 + mc ≤ 8; omega, by show 0 + ms ≤ 400; omega⟩) rfl ?_
  refine g_widen (k2 := 8) (c2 := 400) (by omega) (by omega) ?_
  refine g_i2l (pc := 7) (dd d_Law_output 5 rfl) ?_
  refine g_last (pc := 8) (dd d_Law_output 6 rfl) ar_OUT (by rw [vp_in_iff]; decide) ?_
  refine g_goto (pc := 9) (tgt := 15) (dd d_Law_output 7 rfl) (by decide) ?_
  refine g_iconst (pc := 15) (v := 0) (dd d_Law_output 11 rfl) (by decide) ?_
  exact g_iret (pc := 16) rfl (dd d_Law_output 12 rfl) hT
theorem lt_output_IOE {Δ : Dx} {σ : St} {j : Nat} {p0 : Int32} (hj : j < 60) (hE : EvT Δ j m_Eng_output [.ref (Δ.ba + 0), .int p0] σ "java/lang/IndexOutOfBoundsException") : EvX Δ 60 m_Law_output hs_output [.ref (Δ.ba + 0), .int p0, .ref (Δ.ba + OUT)] σ (some (.int 1)) σ 8 400 := by
  refine evX_of (by decide) (Nat.le_of_ble_eq_true rfl) (fun Γ hk hR hT hH => ?_)
  refine g_aload_n (pc := 0) (dd d_Law_output 0 rfl) rfl ?_
  refine g_iconst (pc := 1) (v := 0) (dd d_Law_output 1 rfl) (by decide) ?_
  refine g_aload_n (pc := 2) (dd d_Law_output 2 rfl) rfl ?_
  refine g_iload_n (pc := 3) (dd d_Law_output 3 rfl) rfl ?_
  refine g_callVT (pc := 4) (h := 12) (dd d_Law_output 4 rfl) v_Law_58 ob_E rfl hE rfl (by rw [hk]; exact hj) (Nat.le_of_ble_eq_true rfl) (by rw [hR]; exact ⟨by decide, by decide⟩) rfl (by rw [hH]; exact ⟨[], (0, 9, 12, 25), [], rfl, rfl, fun _ h => absurd h List.not_mem_nil, by decide, _, cl_IOE, cy_IOE⟩) (fun xx => ?_)
  refine g_widen (k2 := 8) (c2 := 400) (by decide) (by decide) ?_
  refine g_astore_n (pc := 12) (dd d_Law_output 8 rfl) (by decide) ?_
  refine g_iconst (pc := 13) (v := 1) (dd d_Law_output 9 rfl) (by decide) ?_
  exact g_iret (pc := 14) rfl (dd d_Law_output 10 rfl) hT
def hs_pairOf : List (Nat × Nat × Nat × Nat) := [(0, 10, 13, 25), (0, 10, 17, 13)]
theorem lr_pairOf {Δ : Dx} {σ σ' : St} {j mc ms : Nat} {p0 p1 r : Int32} (hj : j < 60) (h1 : mc ≤ 8) (h2 : ms ≤ 400) (hE : EvN Δ j m_Eng_pairOf NN [.ref (Δ.ba + 0), .int p0, .int p1] σ (some (.int r)) NN σ' mc ms) : EvX Δ 60 m_Law_pairOf hs_pairOf [.ref (Δ.ba + 0), .int p0, .int p1, .ref (Δ.ba + OUT)] σ (some (.int 0)) (stJ σ' OUT 0 r.toInt64) 8 400 := by
  refine evX_of (by decide) (Nat.le_of_ble_eq_true rfl) (fun Γ hk hR hT _ => ?_)
  refine g_aload_n (pc := 0) (dd d_Law_pairOf 0 rfl) rfl ?_
  refine g_iconst (pc := 1) (v := 0) (dd d_Law_pairOf 1 rfl) (by decide) ?_
  refine g_aload_n (pc := 2) (dd d_Law_pairOf 2 rfl) rfl ?_
  refine g_iload_n (pc := 3) (dd d_Law_pairOf 3 rfl) rfl ?_
  refine g_iload_n (pc := 4) (dd d_Law_pairOf 4 rfl) rfl ?_
  refine g_callV (pc := 5) (dd d_Law_pairOf 5 rfl) v_Law_61 ob_E rfl hE rfl (by rw [hk]; exact hj) (Nat.le_of_ble_eq_true rfl) (by rw [hR]; exact ⟨by show 0 + mc ≤ 8; omega, by show 0 + ms ≤ 400; omega⟩) rfl ?_
  refine g_widen (k2 := 8) (c2 := 400) (by omega) (by omega) ?_
  refine g_i2l (pc := 8) (dd d_Law_pairOf 6 rfl) ?_
  refine g_last (pc := 9) (dd d_Law_pairOf 7 rfl) ar_OUT (by rw [vp_in_iff]; decide) ?_
  refine g_goto (pc := 10) (tgt := 21) (dd d_Law_pairOf 8 rfl) (by decide) ?_
  refine g_iconst (pc := 21) (v := 0) (dd d_Law_pairOf 15 rfl) (by decide) ?_
  exact g_iret (pc := 22) rfl (dd d_Law_pairOf 16 rfl) hT
theorem lt_pairOf_IOE {Δ : Dx} {σ : St} {j : Nat} {p0 p1 : Int32} (hj : j < 60) (hE : EvT Δ j m_Eng_pairOf [.ref (Δ.ba + 0), .int p0, .int p1] σ "java/lang/IndexOutOfBoundsException") : EvX Δ 60 m_Law_pairOf hs_pairOf [.ref (Δ.ba + 0), .int p0, .int p1, .ref (Δ.ba + OUT)] σ (some (.int 1)) σ 8 400 := by
  refine evX_of (by decide) (Nat.le_of_ble_eq_true rfl) (fun Γ hk hR hT hH => ?_)
  refine g_aload_n (pc := 0) (dd d_Law_pairOf 0 rfl) rfl ?_
  refine g_iconst (pc := 1) (v := 0) (dd d_Law_pairOf 1 rfl) (by decide) ?_
  refine g_aload_n (pc := 2) (dd d_Law_pairOf 2 rfl) rfl ?_
  refine g_iload_n (pc := 3) (dd d_Law_pairOf 3 rfl) rfl ?_
  refine g_iload_n (pc := 4) (dd d_Law_pairOf 4 rfl) rfl ?_
  refine g_callVT (pc := 5) (h := 13) (dd d_Law_pairOf 5 rfl) v_Law_61 ob_E rfl hE rfl (by rw [hk]; exact hj) (Nat.le_of_ble_eq_true rfl) (by rw [hR]; exact ⟨by decide, by decide⟩) rfl (by rw [hH]; exact ⟨[], (0, 10, 13, 25), [(0, 10, 17, 13)], rfl, rfl, fun _ h => absurd h List.not_mem_nil, by decide, _, cl_IOE, cy_IOE⟩) (fun xx => ?_)
  refine g_widen (k2 := 8) (c2 := 400) (by decide) (by decide) ?_
  refine g_astore (pc := 13) (dd d_Law_pairOf 9 rfl) (by decide) ?_
  refine g_iconst (pc := 15) (v := 1) (dd d_Law_pairOf 10 rfl) (by decide) ?_
  exact g_iret (pc := 16) rfl (dd d_Law_pairOf 11 rfl) hT
theorem lt_pairOf_IAE {Δ : Dx} {σ : St} {j : Nat} {p0 p1 : Int32} (hj : j < 60) (hE : EvT Δ j m_Eng_pairOf [.ref (Δ.ba + 0), .int p0, .int p1] σ "java/lang/IllegalArgumentException") : EvX Δ 60 m_Law_pairOf hs_pairOf [.ref (Δ.ba + 0), .int p0, .int p1, .ref (Δ.ba + OUT)] σ (some (.int 2)) σ 8 400 := by
  refine evX_of (by decide) (Nat.le_of_ble_eq_true rfl) (fun Γ hk hR hT hH => ?_)
  refine g_aload_n (pc := 0) (dd d_Law_pairOf 0 rfl) rfl ?_
  refine g_iconst (pc := 1) (v := 0) (dd d_Law_pairOf 1 rfl) (by decide) ?_
  refine g_aload_n (pc := 2) (dd d_Law_pairOf 2 rfl) rfl ?_
  refine g_iload_n (pc := 3) (dd d_Law_pairOf 3 rfl) rfl ?_
  refine g_iload_n (pc := 4) (dd d_Law_pairOf 4 rfl) rfl ?_
  refine g_callVT (pc := 5) (h := 17) (dd d_Law_pairOf 5 rfl) v_Law_61 ob_E rfl hE rfl (by rw [hk]; exact hj) (Nat.le_of_ble_eq_true rfl) (by rw [hR]; exact ⟨by decide, by decide⟩) rfl (by rw [hH]; exact ⟨[(0, 10, 13, 25)], (0, 10, 17, 13), [], rfl, rfl, List.forall_mem_cons.mpr ⟨⟨by decide, _, cl_IOE, cn_IAE_IOE⟩, fun _ h => absurd h List.not_mem_nil⟩, by decide, _, cl_IAE, cy_IAE⟩) (fun xx => ?_)
  refine g_widen (k2 := 8) (c2 := 400) (by decide) (by decide) ?_
  refine g_astore (pc := 17) (dd d_Law_pairOf 12 rfl) (by decide) ?_
  refine g_iconst (pc := 19) (v := 2) (dd d_Law_pairOf 13 rfl) (by decide) ?_
  exact g_iret (pc := 20) rfl (dd d_Law_pairOf 14 rfl) hT
def hs_names : List (Nat × Nat × Nat × Nat) := [(0, 9, 12, 13)]
theorem lr_names {Δ : Dx} {σ σ' : St} {j mc ms : Nat} {p0 r : Int32} (hj : j < 60) (h1 : mc ≤ 8) (h2 : ms ≤ 400) (hE : EvN Δ j m_Eng_names NN [.ref (Δ.ba + 0), .int p0] σ (some (.int r)) NN σ' mc ms) : EvX Δ 60 m_Law_names hs_names [.ref (Δ.ba + 0), .int p0, .ref (Δ.ba + OUT)] σ (some (.int 0)) (stJ σ' OUT 0 r.toInt64) 8 400 := by
  refine evX_of (by decide) (Nat.le_of_ble_eq_true rfl) (fun Γ hk hR hT _ => ?_)
  refine g_aload_n (pc := 0) (dd d_Law_names 0 rfl) rfl ?_
  refine g_iconst (pc := 1) (v := 0) (dd d_Law_names 1 rfl) (by decide) ?_
  refine g_aload_n (pc := 2) (dd d_Law_names 2 rfl) rfl ?_
  refine g_iload_n (pc := 3) (dd d_Law_names 3 rfl) rfl ?_
  refine g_callV (pc := 4) (dd d_Law_names 4 rfl) v_Law_64 ob_E rfl hE rfl (by rw [hk]; exact hj) (Nat.le_of_ble_eq_true rfl) (by rw [hR]; exact ⟨by show 0 + mc ≤ 8; omega, by show 0 + ms ≤ 400; omega⟩) rfl ?_
  refine g_widen (k2 := 8) (c2 := 400) (by omega) (by omega) ?_
  refine g_i2l (pc := 7) (dd d_Law_names 5 rfl) ?_
  refine g_last (pc := 8) (dd d_Law_names 6 rfl) ar_OUT (by rw [vp_in_iff]; decide) ?_
  refine g_goto (pc := 9) (tgt := 15) (dd d_Law_names 7 rfl) (by decide) ?_
  refine g_iconst (pc := 15) (v := 0) (dd d_Law_names 11 rfl) (by decide) ?_
  exact g_iret (pc := 16) rfl (dd d_Law_names 12 rfl) hT
theorem lt_names_IAE {Δ : Dx} {σ : St} {j : Nat} {p0 : Int32} (hj : j < 60) (hE : EvT Δ j m_Eng_names [.ref (Δ.ba + 0), .int p0] σ "java/lang/IllegalArgumentException") : EvX Δ 60 m_Law_names hs_names [.ref (Δ.ba + 0), .int p0, .ref (Δ.ba + OUT)] σ (some (.int 1)) σ 8 400 := by
  refine evX_of (by decide) (Nat.le_of_ble_eq_true rfl) (fun Γ hk hR hT hH => ?_)
  refine g_aload_n (pc := 0) (dd d_Law_names 0 rfl) rfl ?_
  refine g_iconst (pc := 1) (v := 0) (dd d_Law_names 1 rfl) (by decide) ?_
  refine g_aload_n (pc := 2) (dd d_Law_names 2 rfl) rfl ?_
  refine g_iload_n (pc := 3) (dd d_Law_names 3 rfl) rfl ?_
  refine g_callVT (pc := 4) (h := 12) (dd d_Law_names 4 rfl) v_Law_64 ob_E rfl hE rfl (by rw [hk]; exact hj) (Nat.le_of_ble_eq_true rfl) (by rw [hR]; exact ⟨by decide, by decide⟩) rfl (by rw [hH]; exact ⟨[], (0, 9, 12, 13), [], rfl, rfl, fun _ h => absurd h List.not_mem_nil, by decide, _, cl_IAE, cy_IAE⟩) (fun xx => ?_)
  refine g_widen (k2 := 8) (c2 := 400) (by decide) (by decide) ?_
  refine g_astore_n (pc := 12) (dd d_Law_names 8 rfl) (by decide) ?_
  refine g_iconst (pc := 13) (v := 1) (dd d_Law_names 9 rfl) (by decide) ?_
  exact g_iret (pc := 14) rfl (dd d_Law_names 10 rfl) hT
def hs_journal : List (Nat × Nat × Nat × Nat) := [(0, 10, 13, 25), (0, 10, 17, 13)]
theorem lr_journal {Δ : Dx} {σ σ' : St} {j mc ms : Nat} {p0 p1 r : Int32} (hj : j < 60) (h1 : mc ≤ 8) (h2 : ms ≤ 400) (hE : EvN Δ j m_Eng_journal NN [.ref (Δ.ba + 0), .int p0, .int p1] σ (some (.int r)) NN σ' mc ms) : EvX Δ 60 m_Law_journal hs_journal [.ref (Δ.ba + 0), .int p0, .int p1, .ref (Δ.ba + OUT)] σ (some (.int 0)) (stJ σ' OUT 0 r.toInt64) 8 400 := by
  refine evX_of (by decide) (Nat.le_of_ble_eq_true rfl) (fun Γ hk hR hT _ => ?_)
  refine g_aload_n (pc := 0) (dd d_Law_journal 0 rfl) rfl ?_
  refine g_iconst (pc := 1) (v := 0) (dd d_Law_journal 1 rfl) (by decide) ?_
  refine g_aload_n (pc := 2) (dd d_Law_journal 2 rfl) rfl ?_
  refine g_iload_n (pc := 3) (dd d_Law_journal 3 rfl) rfl ?_
  refine g_iload_n (pc := 4) (dd d_Law_journal 4 rfl) rfl ?_
  refine g_callV (pc := 5) (dd d_Law_journal 5 rfl) v_Law_67 ob_E rfl hE rfl (by rw [hk]; exact hj) (Nat.le_of_ble_eq_true rfl) (by rw [hR]; exact ⟨by show 0 + mc ≤ 8; omega, by show 0 + ms ≤ 400; omega⟩) rfl ?_
  refine g_widen (k2 := 8) (c2 := 400) (by omega) (by omega) ?_
  refine g_i2l (pc := 8) (dd d_Law_journal 6 rfl) ?_
  refine g_last (pc := 9) (dd d_Law_journal 7 rfl) ar_OUT (by rw [vp_in_iff]; decide) ?_
  refine g_goto (pc := 10) (tgt := 21) (dd d_Law_journal 8 rfl) (by decide) ?_
  refine g_iconst (pc := 21) (v := 0) (dd d_Law_journal 15 rfl) (by decide) ?_
  exact g_iret (pc := 22) rfl (dd d_Law_journal 16 rfl) hT
theorem lt_journal_IOE {Δ : Dx} {σ : St} {j : Nat} {p0 p1 : Int32} (hj : j < 60) (hE : EvT Δ j m_Eng_journal [.ref (Δ.ba + 0), .int p0, .int p1] σ "java/lang/IndexOutOfBoundsException") : EvX Δ 60 m_Law_journal hs_journal [.ref (Δ.ba + 0), .int p0, .int p1, .ref (Δ.ba + OUT)] σ (some (.int 1)) σ 8 400 := by
  refine evX_of (by decide) (Nat.le_of_ble_eq_true rfl) (fun Γ hk hR hT hH => ?_)
  refine g_aload_n (pc := 0) (dd d_Law_journal 0 rfl) rfl ?_
  refine g_iconst (pc := 1) (v := 0) (dd d_Law_journal 1 rfl) (by decide) ?_
  refine g_aload_n (pc := 2) (dd d_Law_journal 2 rfl) rfl ?_
  refine g_iload_n (pc := 3) (dd d_Law_journal 3 rfl) rfl ?_
  refine g_iload_n (pc := 4) (dd d_Law_journal 4 rfl) rfl ?_
  refine g_callVT (pc := 5) (h := 13) (dd d_Law_journal 5 rfl) v_Law_67 ob_E rfl hE rfl (by rw [hk]; exact hj) (Nat.le_of_ble_eq_true rfl) (by rw [hR]; exact ⟨by decide, by decide⟩) rfl (by rw [hH]; exact ⟨[], (0, 10, 13, 25), [(0, 10, 17, 13)], rfl, rfl, fun _ h => absurd h List.not_mem_nil, by decide, _, cl_IOE, cy_IOE⟩) (fun xx => ?_)
  refine g_widen (k2 := 8) (c2 := 400) (by decide) (by decide) ?_
  refine g_astore (pc := 13) (dd d_Law_journal 9 rfl) (by decide) ?_
  refine g_iconst (pc := 15) (v := 1) (dd d_Law_journal 10 rfl) (by decide) ?_
  exact g_iret (pc := 16) rfl (dd d_Law_journal 11 rfl) hT
theorem lt_journal_IAE {Δ : Dx} {σ : St} {j : Nat} {p0 p1 : Int32} (hj : j < 60) (hE : EvT Δ j m_Eng_journal [.ref (Δ.ba + 0), .int p0, .int p1] σ "java/lang/IllegalArgumentException") : EvX Δ 60 m_Law_journal hs_journal [.ref (Δ.ba + 0), .int p0, .int p1, .ref (Δ.ba + OUT)] σ (some (.int 2)) σ 8 400 := by
  refine evX_of (by decide) (Nat.le_of_ble_eq_true rfl) (fun Γ hk hR hT hH => ?_)
  refine g_aload_n (pc := 0) (dd d_Law_journal 0 rfl) rfl ?_
  refine g_iconst (pc := 1) (v := 0) (dd d_Law_journal 1 rfl) (by decide) ?_
  refine g_aload_n (pc := 2) (dd d_Law_journal 2 rfl) rfl ?_
  refine g_iload_n (pc := 3) (dd d_Law_journal 3 rfl) rfl ?_
  refine g_iload_n (pc := 4) (dd d_Law_journal 4 rfl) rfl ?_
  refine g_callVT (pc := 5) (h := 17) (dd d_Law_journal 5 rfl) v_Law_67 ob_E rfl hE rfl (by rw [hk]; exact hj) (Nat.le_of_ble_eq_true rfl) (by rw [hR]; exact ⟨by decide, by decide⟩) rfl (by rw [hH]; exact ⟨[(0, 10, 13, 25)], (0, 10, 17, 13), [], rfl, rfl, List.forall_mem_cons.mpr ⟨⟨by decide, _, cl_IOE, cn_IAE_IOE⟩, fun _ h => absurd h List.not_mem_nil⟩, by decide, _, cl_IAE, cy_IAE⟩) (fun xx => ?_)
  refine g_widen (k2 := 8) (c2 := 400) (by decide) (by decide) ?_
  refine g_astore (pc := 17) (dd d_Law_journal 12 rfl) (by decide) ?_
  refine g_iconst (pc := 19) (v := 2) (dd d_Law_journal 13 rfl) (by decide) ?_
  exact g_iret (pc := 20) rfl (dd d_Law_journal 14 rfl) hT
def hs_count : List (Nat × Nat × Nat × Nat) := [(0, 10, 13, 13)]
theorem lr_count {Δ : Dx} {σ σ' : St} {j mc ms : Nat} {p0 p1 r : Int32} (hj : j < 60) (h1 : mc ≤ 8) (h2 : ms ≤ 400) (hE : EvN Δ j m_Eng_count NN [.ref (Δ.ba + 0), .int p0, .int p1] σ (some (.int r)) NN σ' mc ms) : EvX Δ 60 m_Law_count hs_count [.ref (Δ.ba + 0), .int p0, .int p1, .ref (Δ.ba + OUT)] σ (some (.int 0)) (stJ σ' OUT 0 r.toInt64) 8 400 := by
  refine evX_of (by decide) (Nat.le_of_ble_eq_true rfl) (fun Γ hk hR hT _ => ?_)
  refine g_aload_n (pc := 0) (dd d_Law_count 0 rfl) rfl ?_
  refine g_iconst (pc := 1) (v := 0) (dd d_Law_count 1 rfl) (by decide) ?_
  refine g_aload_n (pc := 2) (dd d_Law_count 2 rfl) rfl ?_
  refine g_iload_n (pc := 3) (dd d_Law_count 3 rfl) rfl ?_
  refine g_iload_n (pc := 4) (dd d_Law_count 4 rfl) rfl ?_
  refine g_callV (pc := 5) (dd d_Law_count 5 rfl) v_Law_70 ob_E rfl hE rfl (by rw [hk]; exact hj) (Nat.le_of_ble_eq_true rfl) (by rw [hR]; exact ⟨by show 0 + mc ≤ 8; omega, by show 0 + ms ≤ 400; omega⟩) rfl ?_
  refine g_widen (k2 := 8) (c2 := 400) (by omega) (by omega) ?_
  refine g_i2l (pc := 8) (dd d_Law_count 6 rfl) ?_
  refine g_last (pc := 9) (dd d_Law_count 7 rfl) ar_OUT (by rw [vp_in_iff]; decide) ?_
  refine g_goto (pc := 10) (tgt := 17) (dd d_Law_count 8 rfl) (by decide) ?_
  refine g_iconst (pc := 17) (v := 0) (dd d_Law_count 12 rfl) (by decide) ?_
  exact g_iret (pc := 18) rfl (dd d_Law_count 13 rfl) hT
theorem lt_count_IAE {Δ : Dx} {σ : St} {j : Nat} {p0 p1 : Int32} (hj : j < 60) (hE : EvT Δ j m_Eng_count [.ref (Δ.ba + 0), .int p0, .int p1] σ "java/lang/IllegalArgumentException") : EvX Δ 60 m_Law_count hs_count [.ref (Δ.ba + 0), .int p0, .int p1, .ref (Δ.ba + OUT)] σ (some (.int 1)) σ 8 400 := by
  refine evX_of (by decide) (Nat.le_of_ble_eq_true rfl) (fun Γ hk hR hT hH => ?_)
  refine g_aload_n (pc := 0) (dd d_Law_count 0 rfl) rfl ?_
  refine g_iconst (pc := 1) (v := 0) (dd d_Law_count 1 rfl) (by decide) ?_
  refine g_aload_n (pc := 2) (dd d_Law_count 2 rfl) rfl ?_
  refine g_iload_n (pc := 3) (dd d_Law_count 3 rfl) rfl ?_
  refine g_iload_n (pc := 4) (dd d_Law_count 4 rfl) rfl ?_
  refine g_callVT (pc := 5) (h := 13) (dd d_Law_count 5 rfl) v_Law_70 ob_E rfl hE rfl (by rw [hk]; exact hj) (Nat.le_of_ble_eq_true rfl) (by rw [hR]; exact ⟨by decide, by decide⟩) rfl (by rw [hH]; exact ⟨[], (0, 10, 13, 13), [], rfl, rfl, fun _ h => absurd h List.not_mem_nil, by decide, _, cl_IAE, cy_IAE⟩) (fun xx => ?_)
  refine g_widen (k2 := 8) (c2 := 400) (by decide) (by decide) ?_
  refine g_astore (pc := 13) (dd d_Law_count 9 rfl) (by decide) ?_
  refine g_iconst (pc := 15) (v := 1) (dd d_Law_count 10 rfl) (by decide) ?_
  exact g_iret (pc := 16) rfl (dd d_Law_count 11 rfl) hT
def hs_cacheOf : List (Nat × Nat × Nat × Nat) := [(0, 10, 13, 25), (0, 10, 17, 13)]
theorem lr_cacheOf {Δ : Dx} {σ σ' : St} {j mc ms : Nat} {p0 p1 r : Int32} (hj : j < 60) (h1 : mc ≤ 8) (h2 : ms ≤ 400) (hE : EvN Δ j m_Eng_cacheOf NN [.ref (Δ.ba + 0), .int p0, .int p1] σ (some (.int r)) NN σ' mc ms) : EvX Δ 60 m_Law_cacheOf hs_cacheOf [.ref (Δ.ba + 0), .int p0, .int p1, .ref (Δ.ba + OUT)] σ (some (.int 0)) (stJ σ' OUT 0 r.toInt64) 8 400 := by
  refine evX_of (by decide) (Nat.le_of_ble_eq_true rfl) (fun Γ hk hR hT _ => ?_)
  refine g_aload_n (pc := 0) (dd d_Law_cacheOf 0 rfl) rfl ?_
  refine g_iconst (pc := 1) (v := 0) (dd d_Law_cacheOf 1 rfl) (by decide) ?_
  refine g_aload_n (pc := 2) (dd d_Law_cacheOf 2 rfl) rfl ?_
  refine g_iload_n (pc := 3) (dd d_Law_cacheOf 3 rfl) rfl ?_
  refine g_iload_n (pc := 4) (dd d_Law_cacheOf 4 rfl) rfl ?_
  refine g_callV (pc := 5) (dd d_Law_cacheOf 5 rfl) v_Law_73 ob_E rfl hE rfl (by rw [hk]; exact hj) (Nat.le_of_ble_eq_true rfl) (by rw [hR]; exact ⟨by show 0 + mc ≤ 8; omega, by show 0 + ms ≤ 400; omega⟩) rfl ?_
  refine g_widen (k2 := 8) (c2 := 400) (by omega) (by omega) ?_
  refine g_i2l (pc := 8) (dd d_Law_cacheOf 6 rfl) ?_
  refine g_last (pc := 9) (dd d_Law_cacheOf 7 rfl) ar_OUT (by rw [vp_in_iff]; decide) ?_
  refine g_goto (pc := 10) (tgt := 21) (dd d_Law_cacheOf 8 rfl) (by decide) ?_
  refine g_iconst (pc := 21) (v := 0) (dd d_Law_cacheOf 15 rfl) (by decide) ?_
  exact g_iret (pc := 22) rfl (dd d_Law_cacheOf 16 rfl) hT
theorem lt_cacheOf_IOE {Δ : Dx} {σ : St} {j : Nat} {p0 p1 : Int32} (hj : j < 60) (hE : EvT Δ j m_Eng_cacheOf [.ref (Δ.ba + 0), .int p0, .int p1] σ "java/lang/IndexOutOfBoundsException") : EvX Δ 60 m_Law_cacheOf hs_cacheOf [.ref (Δ.ba + 0), .int p0, .int p1, .ref (Δ.ba + OUT)] σ (some (.int 1)) σ 8 400 := by
  refine evX_of (by decide) (Nat.le_of_ble_eq_true rfl) (fun Γ hk hR hT hH => ?_)
  refine g_aload_n (pc := 0) (dd d_Law_cacheOf 0 rfl) rfl ?_
  refine g_iconst (pc := 1) (v := 0) (dd d_Law_cacheOf 1 rfl) (by decide) ?_
  refine g_aload_n (pc := 2) (dd d_Law_cacheOf 2 rfl) rfl ?_
  refine g_iload_n (pc := 3) (dd d_Law_cacheOf 3 rfl) rfl ?_
  refine g_iload_n (pc := 4) (dd d_Law_cacheOf 4 rfl) rfl ?_
  refine g_callVT (pc := 5) (h := 13) (dd d_Law_cacheOf 5 rfl) v_Law_73 ob_E rfl hE rfl (by rw [hk]; exact hj) (Nat.le_of_ble_eq_true rfl) (by rw [hR]; exact ⟨by decide, by decide⟩) rfl (by rw [hH]; exact ⟨[], (0, 10, 13, 25), [(0, 10, 17, 13)], rfl, rfl, fun _ h => absurd h List.not_mem_nil, by decide, _, cl_IOE, cy_IOE⟩) (fun xx => ?_)
  refine g_widen (k2 := 8) (c2 := 400) (by decide) (by decide) ?_
  refine g_astore (pc := 13) (dd d_Law_cacheOf 9 rfl) (by decide) ?_
  refine g_iconst (pc := 15) (v := 1) (dd d_Law_cacheOf 10 rfl) (by decide) ?_
  exact g_iret (pc := 16) rfl (dd d_Law_cacheOf 11 rfl) hT
theorem lt_cacheOf_IAE {Δ : Dx} {σ : St} {j : Nat} {p0 p1 : Int32} (hj : j < 60) (hE : EvT Δ j m_Eng_cacheOf [.ref (Δ.ba + 0), .int p0, .int p1] σ "java/lang/IllegalArgumentException") : EvX Δ 60 m_Law_cacheOf hs_cacheOf [.ref (Δ.ba + 0), .int p0, .int p1, .ref (Δ.ba + OUT)] σ (some (.int 2)) σ 8 400 := by
  refine evX_of (by decide) (Nat.le_of_ble_eq_true rfl) (fun Γ hk hR hT hH => ?_)
  refine g_aload_n (pc := 0) (dd d_Law_cacheOf 0 rfl) rfl ?_
  refine g_iconst (pc := 1) (v := 0) (dd d_Law_cacheOf 1 rfl) (by decide) ?_
  refine g_aload_n (pc := 2) (dd d_Law_cacheOf 2 rfl) rfl ?_
  refine g_iload_n (pc := 3) (dd d_Law_cacheOf 3 rfl) rfl ?_
  refine g_iload_n (pc := 4) (dd d_Law_cacheOf 4 rfl) rfl ?_
  refine g_callVT (pc := 5) (h := 17) (dd d_Law_cacheOf 5 rfl) v_Law_73 ob_E rfl hE rfl (by rw [hk]; exact hj) (Nat.le_of_ble_eq_true rfl) (by rw [hR]; exact ⟨by decide, by decide⟩) rfl (by rw [hH]; exact ⟨[(0, 10, 13, 25)], (0, 10, 17, 13), [], rfl, rfl, List.forall_mem_cons.mpr ⟨⟨by decide, _, cl_IOE, cn_IAE_IOE⟩, fun _ h => absurd h List.not_mem_nil⟩, by decide, _, cl_IAE, cy_IAE⟩) (fun xx => ?_)
  refine g_widen (k2 := 8) (c2 := 400) (by decide) (by decide) ?_
  refine g_astore (pc := 17) (dd d_Law_cacheOf 12 rfl) (by decide) ?_
  refine g_iconst (pc := 19) (v := 2) (dd d_Law_cacheOf 13 rfl) (by decide) ?_
  exact g_iret (pc := 20) rfl (dd d_Law_cacheOf 14 rfl) hT
def hs_differ : List (Nat × Nat × Nat × Nat) := [(0, 10, 13, 13), (0, 10, 17, 47), (0, 10, 21, 15)]
theorem lr_differ {Δ : Dx} {σ σ' : St} {j mc ms : Nat} {p0 p1 r : Int32} (hj : j < 60) (h1 : mc ≤ 8) (h2 : ms ≤ 400) (hE : EvN Δ j m_Eng_differ NN [.ref (Δ.ba + 0), .int p0, .int p1] σ (some (.int r)) NN σ' mc ms) : EvX Δ 60 m_Law_differ hs_differ [.ref (Δ.ba + 0), .int p0, .int p1, .ref (Δ.ba + OUT)] σ (some (.int 0)) (stJ σ' OUT 0 r.toInt64) 8 400 := by
  refine evX_of (by decide) (Nat.le_of_ble_eq_true rfl) (fun Γ hk hR hT _ => ?_)
  refine g_aload_n (pc := 0) (dd d_Law_differ 0 rfl) rfl ?_
  refine g_iconst (pc := 1) (v := 0) (dd d_Law_differ 1 rfl) (by decide) ?_
  refine g_aload_n (pc := 2) (dd d_Law_differ 2 rfl) rfl ?_
  refine g_iload_n (pc := 3) (dd d_Law_differ 3 rfl) rfl ?_
  refine g_iload_n (pc := 4) (dd d_Law_differ 4 rfl) rfl ?_
  refine g_callV (pc := 5) (dd d_Law_differ 5 rfl) v_Law_76 ob_E rfl hE rfl (by rw [hk]; exact hj) (Nat.le_of_ble_eq_true rfl) (by rw [hR]; exact ⟨by show 0 + mc ≤ 8; omega, by show 0 + ms ≤ 400; omega⟩) rfl ?_
  refine g_widen (k2 := 8) (c2 := 400) (by omega) (by omega) ?_
  refine g_i2l (pc := 8) (dd d_Law_differ 6 rfl) ?_
  refine g_last (pc := 9) (dd d_Law_differ 7 rfl) ar_OUT (by rw [vp_in_iff]; decide) ?_
  refine g_goto (pc := 10) (tgt := 25) (dd d_Law_differ 8 rfl) (by decide) ?_
  refine g_iconst (pc := 25) (v := 0) (dd d_Law_differ 18 rfl) (by decide) ?_
  exact g_iret (pc := 26) rfl (dd d_Law_differ 19 rfl) hT
theorem lt_differ_IAE {Δ : Dx} {σ : St} {j : Nat} {p0 p1 : Int32} (hj : j < 60) (hE : EvT Δ j m_Eng_differ [.ref (Δ.ba + 0), .int p0, .int p1] σ "java/lang/IllegalArgumentException") : EvX Δ 60 m_Law_differ hs_differ [.ref (Δ.ba + 0), .int p0, .int p1, .ref (Δ.ba + OUT)] σ (some (.int 1)) σ 8 400 := by
  refine evX_of (by decide) (Nat.le_of_ble_eq_true rfl) (fun Γ hk hR hT hH => ?_)
  refine g_aload_n (pc := 0) (dd d_Law_differ 0 rfl) rfl ?_
  refine g_iconst (pc := 1) (v := 0) (dd d_Law_differ 1 rfl) (by decide) ?_
  refine g_aload_n (pc := 2) (dd d_Law_differ 2 rfl) rfl ?_
  refine g_iload_n (pc := 3) (dd d_Law_differ 3 rfl) rfl ?_
  refine g_iload_n (pc := 4) (dd d_Law_differ 4 rfl) rfl ?_
  refine g_callVT (pc := 5) (h := 13) (dd d_Law_differ 5 rfl) v_Law_76 ob_E rfl hE rfl (by rw [hk]; exact hj) (Nat.le_of_ble_eq_true rfl) (by rw [hR]; exact ⟨by decide, by decide⟩) rfl (by rw [hH]; exact ⟨[], (0, 10, 13, 13), [(0, 10, 17, 47), (0, 10, 21, 15)], rfl, rfl, fun _ h => absurd h List.not_mem_nil, by decide, _, cl_IAE, cy_IAE⟩) (fun xx => ?_)
  refine g_widen (k2 := 8) (c2 := 400) (by decide) (by decide) ?_
  refine g_astore (pc := 13) (dd d_Law_differ 9 rfl) (by decide) ?_
  refine g_iconst (pc := 15) (v := 1) (dd d_Law_differ 10 rfl) (by decide) ?_
  exact g_iret (pc := 16) rfl (dd d_Law_differ 11 rfl) hT
theorem lt_differ_ISE {Δ : Dx} {σ : St} {j : Nat} {p0 p1 : Int32} (hj : j < 60) (hE : EvT Δ j m_Eng_differ [.ref (Δ.ba + 0), .int p0, .int p1] σ "java/lang/IllegalStateException") : EvX Δ 60 m_Law_differ hs_differ [.ref (Δ.ba + 0), .int p0, .int p1, .ref (Δ.ba + OUT)] σ (some (.int 2)) σ 8 400 := by
  refine evX_of (by decide) (Nat.le_of_ble_eq_true rfl) (fun Γ hk hR hT hH => ?_)
  refine g_aload_n (pc := 0) (dd d_Law_differ 0 rfl) rfl ?_
  refine g_iconst (pc := 1) (v := 0) (dd d_Law_differ 1 rfl) (by decide) ?_
  refine g_aload_n (pc := 2) (dd d_Law_differ 2 rfl) rfl ?_
  refine g_iload_n (pc := 3) (dd d_Law_differ 3 rfl) rfl ?_
  refine g_iload_n (pc := 4) (dd d_Law_differ 4 rfl) rfl ?_
  refine g_callVT (pc := 5) (h := 17) (dd d_Law_differ 5 rfl) v_Law_76 ob_E rfl hE rfl (by rw [hk]; exact hj) (Nat.le_of_ble_eq_true rfl) (by rw [hR]; exact ⟨by decide, by decide⟩) rfl (by rw [hH]; exact ⟨[(0, 10, 13, 13)], (0, 10, 17, 47), [(0, 10, 21, 15)], rfl, rfl, List.forall_mem_cons.mpr ⟨⟨by decide, _, cl_IAE, cn_ISE_IAE⟩, fun _ h => absurd h List.not_mem_nil⟩, by decide, _, cl_ISE, cy_ISE⟩) (fun xx => ?_)
  refine g_widen (k2 := 8) (c2 := 400) (by decide) (by decide) ?_
  refine g_astore (pc := 17) (dd d_Law_differ 12 rfl) (by decide) ?_
  refine g_iconst (pc := 19) (v := 2) (dd d_Law_differ 13 rfl) (by decide) ?_
  exact g_iret (pc := 20) rfl (dd d_Law_differ 14 rfl) hT
theorem lt_differ_UOE {Δ : Dx} {σ : St} {j : Nat} {p0 p1 : Int32} (hj : j < 60) (hE : EvT Δ j m_Eng_differ [.ref (Δ.ba + 0), .int p0, .int p1] σ "java/lang/UnsupportedOperationException") : EvX Δ 60 m_Law_differ hs_differ [.ref (Δ.ba + 0), .int p0, .int p1, .ref (Δ.ba + OUT)] σ (some (.int 3)) σ 8 400 := by
  refine evX_of (by decide) (Nat.le_of_ble_eq_true rfl) (fun Γ hk hR hT hH => ?_)
  refine g_aload_n (pc := 0) (dd d_Law_differ 0 rfl) rfl ?_
  refine g_iconst (pc := 1) (v := 0) (dd d_Law_differ 1 rfl) (by decide) ?_
  refine g_aload_n (pc := 2) (dd d_Law_differ 2 rfl) rfl ?_
  refine g_iload_n (pc := 3) (dd d_Law_differ 3 rfl) rfl ?_
  refine g_iload_n (pc := 4) (dd d_Law_differ 4 rfl) rfl ?_
  refine g_callVT (pc := 5) (h := 21) (dd d_Law_differ 5 rfl) v_Law_76 ob_E rfl hE rfl (by rw [hk]; exact hj) (Nat.le_of_ble_eq_true rfl) (by rw [hR]; exact ⟨by decide, by decide⟩) rfl (by rw [hH]; exact ⟨[(0, 10, 13, 13), (0, 10, 17, 47)], (0, 10, 21, 15), [], rfl, rfl, List.forall_mem_cons.mpr ⟨⟨by decide, _, cl_IAE, cn_UOE_IAE⟩, List.forall_mem_cons.mpr ⟨⟨by decide, _, cl_ISE, cn_UOE_ISE⟩, fun _ h => absurd h List.not_mem_nil⟩⟩, by decide, _, cl_UOE, cy_UOE⟩) (fun xx => ?_)
  refine g_widen (k2 := 8) (c2 := 400) (by decide) (by decide) ?_
  refine g_astore (pc := 21) (dd d_Law_differ 15 rfl) (by decide) ?_
  refine g_iconst (pc := 23) (v := 3) (dd d_Law_differ 16 rfl) (by decide) ?_
  exact g_iret (pc := 24) rfl (dd d_Law_differ 17 rfl) hT
def hs_witness : List (Nat × Nat × Nat × Nat) := [(0, 9, 12, 13), (0, 9, 15, 47)]
theorem lr_witness {Δ : Dx} {σ σ' : St} {j mc ms : Nat} {p0 r : Int32} (hj : j < 60) (h1 : mc ≤ 8) (h2 : ms ≤ 400) (hE : EvN Δ j m_Eng_witness NN [.ref (Δ.ba + 0), .int p0] σ (some (.int r)) NN σ' mc ms) : EvX Δ 60 m_Law_witness hs_witness [.ref (Δ.ba + 0), .int p0, .ref (Δ.ba + OUT)] σ (some (.int 0)) (stJ σ' OUT 0 r.toInt64) 8 400 := by
  refine evX_of (by decide) (Nat.le_of_ble_eq_true rfl) (fun Γ hk hR hT _ => ?_)
  refine g_aload_n (pc := 0) (dd d_Law_witness 0 rfl) rfl ?_
  refine g_iconst (pc := 1) (v := 0) (dd d_Law_witness 1 rfl) (by decide) ?_
  refine g_aload_n (pc := 2) (dd d_Law_witness 2 rfl) rfl ?_
  refine g_iload_n (pc := 3) (dd d_Law_witness 3 rfl) rfl ?_
  refine g_callV (pc := 4) (dd d_Law_witness 4 rfl) v_Law_79 ob_E rfl hE rfl (by rw [hk]; exact hj) (Nat.le_of_ble_eq_true rfl) (by rw [hR]; exact ⟨by show 0 + mc ≤ 8; omega, by show 0 + ms ≤ 400; omega⟩) rfl ?_
  refine g_widen (k2 := 8) (c2 := 400) (by omega) (by omega) ?_
  refine g_i2l (pc := 7) (dd d_Law_witness 5 rfl) ?_
  refine g_last (pc := 8) (dd d_Law_witness 6 rfl) ar_OUT (by rw [vp_in_iff]; decide) ?_
  refine g_goto (pc := 9) (tgt := 18) (dd d_Law_witness 7 rfl) (by decide) ?_
  refine g_iconst (pc := 18) (v := 0) (dd d_Law_witness 14 rfl) (by decide) ?_
  exact g_iret (pc := 19) rfl (dd d_Law_witness 15 rfl) hT
theorem lt_witness_IAE {Δ : Dx} {σ : St} {j : Nat} {p0 : Int32} (hj : j < 60) (hE : EvT Δ j m_Eng_witness [.ref (Δ.ba + 0), .int p0] σ "java/lang/IllegalArgumentException") : EvX Δ 60 m_Law_witness hs_witness [.ref (Δ.ba + 0), .int p0, .ref (Δ.ba + OUT)] σ (some (.int 1)) σ 8 400 := by
  refine evX_of (by decide) (Nat.le_of_ble_eq_true rfl) (fun Γ hk hR hT hH => ?_)
  refine g_aload_n (pc := 0) (dd d_Law_witness 0 rfl) rfl ?_
  refine g_iconst (pc := 1) (v := 0) (dd d_Law_witness 1 rfl) (by decide) ?_
  refine g_aload_n (pc := 2) (dd d_Law_witness 2 rfl) rfl ?_
  refine g_iload_n (pc := 3) (dd d_Law_witness 3 rfl) rfl ?_
  refine g_callVT (pc := 4) (h := 12) (dd d_Law_witness 4 rfl) v_Law_79 ob_E rfl hE rfl (by rw [hk]; exact hj) (Nat.le_of_ble_eq_true rfl) (by rw [hR]; exact ⟨by decide, by decide⟩) rfl (by rw [hH]; exact ⟨[], (0, 9, 12, 13), [(0, 9, 15, 47)], rfl, rfl, fun _ h => absurd h List.not_mem_nil, by decide, _, cl_IAE, cy_IAE⟩) (fun xx => ?_)
  refine g_widen (k2 := 8) (c2 := 400) (by decide) (by decide) ?_
  refine g_astore_n (pc := 12) (dd d_Law_witness 8 rfl) (by decide) ?_
  refine g_iconst (pc := 13) (v := 1) (dd d_Law_witness 9 rfl) (by decide) ?_
  exact g_iret (pc := 14) rfl (dd d_Law_witness 10 rfl) hT
theorem lt_witness_ISE {Δ : Dx} {σ : St} {j : Nat} {p0 : Int32} (hj : j < 60) (hE : EvT Δ j m_Eng_witness [.ref (Δ.ba + 0), .int p0] σ "java/lang/IllegalStateException") : EvX Δ 60 m_Law_witness hs_witness [.ref (Δ.ba + 0), .int p0, .ref (Δ.ba + OUT)] σ (some (.int 2)) σ 8 400 := by
  refine evX_of (by decide) (Nat.le_of_ble_eq_true rfl) (fun Γ hk hR hT hH => ?_)
  refine g_aload_n (pc := 0) (dd d_Law_witness 0 rfl) rfl ?_
  refine g_iconst (pc := 1) (v := 0) (dd d_Law_witness 1 rfl) (by decide) ?_
  refine g_aload_n (pc := 2) (dd d_Law_witness 2 rfl) rfl ?_
  refine g_iload_n (pc := 3) (dd d_Law_witness 3 rfl) rfl ?_
  refine g_callVT (pc := 4) (h := 15) (dd d_Law_witness 4 rfl) v_Law_79 ob_E rfl hE rfl (by rw [hk]; exact hj) (Nat.le_of_ble_eq_true rfl) (by rw [hR]; exact ⟨by decide, by decide⟩) rfl (by rw [hH]; exact ⟨[(0, 9, 12, 13)], (0, 9, 15, 47), [], rfl, rfl, List.forall_mem_cons.mpr ⟨⟨by decide, _, cl_IAE, cn_ISE_IAE⟩, fun _ h => absurd h List.not_mem_nil⟩, by decide, _, cl_ISE, cy_ISE⟩) (fun xx => ?_)
  refine g_widen (k2 := 8) (c2 := 400) (by decide) (by decide) ?_
  refine g_astore_n (pc := 15) (dd d_Law_witness 11 rfl) (by decide) ?_
  refine g_iconst (pc := 16) (v := 2) (dd d_Law_witness 12 rfl) (by decide) ?_
  exact g_iret (pc := 17) rfl (dd d_Law_witness 13 rfl) hT
def hs_unlike : List (Nat × Nat × Nat × Nat) := [(0, 9, 12, 13)]
theorem lr_unlike {Δ : Dx} {σ σ' : St} {j mc ms : Nat} {p0 r : Int32} (hj : j < 60) (h1 : mc ≤ 8) (h2 : ms ≤ 400) (hE : EvN Δ j m_Eng_unlike NN [.ref (Δ.ba + 0), .int p0] σ (some (.int r)) NN σ' mc ms) : EvX Δ 60 m_Law_unlike hs_unlike [.ref (Δ.ba + 0), .int p0, .ref (Δ.ba + OUT)] σ (some (.int 0)) (stJ σ' OUT 0 r.toInt64) 8 400 := by
  refine evX_of (by decide) (Nat.le_of_ble_eq_true rfl) (fun Γ hk hR hT _ => ?_)
  refine g_aload_n (pc := 0) (dd d_Law_unlike 0 rfl) rfl ?_
  refine g_iconst (pc := 1) (v := 0) (dd d_Law_unlike 1 rfl) (by decide) ?_
  refine g_aload_n (pc := 2) (dd d_Law_unlike 2 rfl) rfl ?_
  refine g_iload_n (pc := 3) (dd d_Law_unlike 3 rfl) rfl ?_
  refine g_callV (pc := 4) (dd d_Law_unlike 4 rfl) v_Law_82 ob_E rfl hE rfl (by rw [hk]; exact hj) (Nat.le_of_ble_eq_true rfl) (by rw [hR]; exact ⟨by show 0 + mc ≤ 8; omega, by show 0 + ms ≤ 400; omega⟩) rfl ?_
  refine g_widen (k2 := 8) (c2 := 400) (by omega) (by omega) ?_
  refine g_i2l (pc := 7) (dd d_Law_unlike 5 rfl) ?_
  refine g_last (pc := 8) (dd d_Law_unlike 6 rfl) ar_OUT (by rw [vp_in_iff]; decide) ?_
  refine g_goto (pc := 9) (tgt := 15) (dd d_Law_unlike 7 rfl) (by decide) ?_
  refine g_iconst (pc := 15) (v := 0) (dd d_Law_unlike 11 rfl) (by decide) ?_
  exact g_iret (pc := 16) rfl (dd d_Law_unlike 12 rfl) hT
theorem lt_unlike_IAE {Δ : Dx} {σ : St} {j : Nat} {p0 : Int32} (hj : j < 60) (hE : EvT Δ j m_Eng_unlike [.ref (Δ.ba + 0), .int p0] σ "java/lang/IllegalArgumentException") : EvX Δ 60 m_Law_unlike hs_unlike [.ref (Δ.ba + 0), .int p0, .ref (Δ.ba + OUT)] σ (some (.int 1)) σ 8 400 := by
  refine evX_of (by decide) (Nat.le_of_ble_eq_true rfl) (fun Γ hk hR hT hH => ?_)
  refine g_aload_n (pc := 0) (dd d_Law_unlike 0 rfl) rfl ?_
  refine g_iconst (pc := 1) (v := 0) (dd d_Law_unlike 1 rfl) (by decide) ?_
  refine g_aload_n (pc := 2) (dd d_Law_unlike 2 rfl) rfl ?_
  refine g_iload_n (pc := 3) (dd d_Law_unlike 3 rfl) rfl ?_
  refine g_callVT (pc := 4) (h := 12) (dd d_Law_unlike 4 rfl) v_Law_82 ob_E rfl hE rfl (by rw [hk]; exact hj) (Nat.le_of_ble_eq_true rfl) (by rw [hR]; exact ⟨by decide, by decide⟩) rfl (by rw [hH]; exact ⟨[], (0, 9, 12, 13), [], rfl, rfl, fun _ h => absurd h List.not_mem_nil, by decide, _, cl_IAE, cy_IAE⟩) (fun xx => ?_)
  refine g_widen (k2 := 8) (c2 := 400) (by decide) (by decide) ?_
  refine g_astore_n (pc := 12) (dd d_Law_unlike 8 rfl) (by decide) ?_
  refine g_iconst (pc := 13) (v := 1) (dd d_Law_unlike 9 rfl) (by decide) ?_
  exact g_iret (pc := 14) rfl (dd d_Law_unlike 10 rfl) hT
