/-! the line grows: the library's rule 16, 34, 70 -/
theorem f_Asb_73 : Fx "java/lang/AbstractStringBuilder" 73 11 2 := ⟨R_Sbd, F_Sbd, 4, rfl, rfl, by decide, i_Sbd, t_Sbd_ok, n_Sbd, tk2 239 rfl rfl⟩
theorem f_Asb_79 : Fx "java/lang/AbstractStringBuilder" 79 11 3 := ⟨R_Sbd, F_Sbd, 4, rfl, rfl, by decide, i_Sbd, t_Sbd_ok, n_Sbd, tk3 1 rfl rfl⟩
theorem fm_Sbd_2 : Fm 11 2 := fun _ _ _ h => by cases h; rfl
theorem fm_Sbd_3 : Fm 11 3 := fun _ _ _ h => by cases h; rfl
theorem o55 : Ob NN 55 11 := ⟨by decide, rfl⟩
theorem shl_0 (x : Int32) : x <<< ((0 : Int32) &&& 31) = x := by
  rw [show (0 : Int32) &&& 31 = 0 from by decide]
  simp
theorem nI_minus {a b : Nat} (h : b ≤ a) : nI a - nI b = nI (a - b) := by
  rw [show nI a = nI (a - b) + nI b from by rw [nI_add]; congr 1; omega, Int32.add_sub_cancel]
def m_Asu_newLength : MI := (⟨"jdk/internal/util/ArraysSupport", "newLength", "(III)I"⟩, prog_33_method_27_code, 4, some .int)
def q_Asu_newLength : List (Nat × Instr × Nat) := [(0, .iload_n 0, 1), (1, .iload_n 1, 1), (2, .iload_n 2, 1), (3, .invokestatic 194, 3), (6, .iadd, 1), (7, .istore_n 3, 1), (8, .iconst 0, 1), (9, .iload_n 3, 1), (10, .if_icmp .ge 11, 3), (13, .iload_n 3, 1), (14, .ldc 200, 2), (16, .if_icmp .gt 5, 3), (19, .iload_n 3, 1), (20, .ireturn, 1)]
theorem d_Asu_newLength : Dc m_Asu_newLength.2.1 q_Asu_newLength := by decide +kernel
theorem n_Asu_194 : Cond.methodLink "jdk/internal/util/ArraysSupport" 194 Lib.Math.max.name ∈ tb := tk5 53 rfl rfl
theorem n_Arr_304 : Cond.methodLink "java/util/Arrays" 304 Lib.Math.min.name ∈ tb := tk5 69 rfl rfl
theorem s_Asb_114 : CS "java/lang/AbstractStringBuilder" 114 m_Asu_newLength 3 := ⟨⟨by decide, by decide, by decide +kernel⟩, tk5 50 rfl rfl, tk5 51 rfl rfl, tk1 28 rfl rfl, tk5 52 rfl rfl, by decide⟩
theorem ev_newLength {Δ : Dx} {n : Nat} {σ : St} {L g p : Nat} (h : g ≤ p) (h1 : L + p < 1000) (h0 : 0 < p) : EvN Δ 1 m_Asu_newLength n [.int (nI L), .int (nI g), .int (nI p)] σ (some (.int (nI (L + p)))) n σ 0 0 := by
  refine ev_of (by decide) (Nat.le_of_ble_eq_true rfl) (fun Γ hk hR hT => ?_)
  refine g_iload_n (pc := 0) (dd d_Asu_newLength 0 rfl) rfl ?_
  refine g_iload_n (pc := 1) (dd d_Asu_newLength 1 rfl) rfl ?_
  refine g_iload_n (pc := 2) (dd d_Asu_newLength 2 rfl) rfl ?_
  refine g_mmax (pc := 3) (dd d_Asu_newLength 3 rfl) n_Asu_194 (by rw [hk]; decide) (Nat.le_of_ble_eq_true rfl) (Nat.zero_le _) (Nat.zero_le _) ?_
  have e : maxI (nI g) (nI p) = nI p := by
    unfold maxI
    by_cases q : nI g < nI p
    · rw [if_pos q]
    · rw [if_neg q]
      rw [nI_ltI (by omega) (by omega)] at q
      congr 1
      omega
  rw [e]
  refine g_iadd (pc := 6) (dd d_Asu_newLength 4 rfl) ?_
  rw [nI_add]
  refine g_istore_n (pc := 7) (dd d_Asu_newLength 5 rfl) (by decide) ?_
  refine g_iconst (pc := 8) (v := nI 0) (dd d_Asu_newLength 6 rfl) (by decide) ?_
  refine g_iload_n (pc := 9) (dd d_Asu_newLength 7 rfl) rfl ?_
  refine g_icmpge (pc := 10) (tgt := 21) (dd d_Asu_newLength 8 rfl) (by decide) (fun q => absurd ((nI_leI (by omega) (by omega)).mp q) (by omega)) (fun _ => ?_)
  refine g_iload_n (pc := 13) (dd d_Asu_newLength 9 rfl) rfl ?_
  refine g_ldc (pc := 14) (v := nI 2147483639) (dd d_Asu_newLength 10 rfl) (tk5 54 rfl rfl) ?_
  refine g_icmpgt (pc := 16) (tgt := 21) (dd d_Asu_newLength 11 rfl) (by decide) (fun q => absurd ((nI_ltI (by omega) (by omega)).mp q) (by omega)) (fun _ => ?_)
  refine g_iload_n (pc := 19) (dd d_Asu_newLength 12 rfl) rfl ?_
  exact g_iret (pc := 20) rfl (dd d_Asu_newLength 13 rfl) hT
theorem DYX_v {Δ : Dx} {σ : St} (h : DYX Δ σ.2.2) : σ.2.2 55 0 = .ref (vA Δ σ) := by
  unfold vA
  obtain ⟨-, ⟨a, b⟩ | ⟨a, b⟩⟩ := h
  · rw [if_pos a]; exact b
  · rw [if_neg (by omega)]; exact b
theorem DYX_L {Δ : Dx} {σ : St} (h : DYX Δ σ.2.2) : vL σ = 16 ∨ vL σ = 34 ∨ vL σ = 70 := by
  unfold vL
  obtain ⟨-, ⟨a, b⟩ | ⟨a, b⟩⟩ := h
  · rw [if_pos a]; exact Or.inl rfl
  · rw [if_neg (by omega)]; exact Or.inr a
theorem fv_coder {σ : St} (h : σ.1 55 1 = 0) : fv 11 σ 55 1 = .int 0 := by
  show Value.int (σ.1 55 1) = .int 0
  rw [h]
theorem ev_newCap {Δ : Dx} {σ : St} {mn : Nat} (hD : DYX Δ σ.2.2) (hc : σ.1 55 1 = 0) (h1 : vL σ < mn) (h2 : mn ≤ 2 * vL σ + 2) : EvE Δ 2 m_Asb_newCapacity [.ref (Δ.ba + 55), .int (nI mn)] σ (fun _ => some (.int (nI (2 * vL σ + 2)))) (fun x => x = σ) 0 0 := by
  have hL := DYX_L hD
  refine evE_of (by decide) (Nat.le_of_ble_eq_true rfl) (fun Γ hk hR hT => ?_)
  refine g_aload_n (pc := 0) (dd d_Asb_newCapacity 0 rfl) rfl ?_
  refine g_getr (pc := 1) (a := 55) (dd d_Asb_newCapacity 1 rfl) f_Asb_15 o55 rfl (DYX_v hD) ?_
  refine g_alenV (pc := 4) (v := nI (vL σ)) (dd d_Asb_newCapacity 2 rfl) rfl rfl ?_
  refine g_istore_n (pc := 5) (dd d_Asb_newCapacity 3 rfl) (by decide) ?_
  refine g_iload_n (pc := 6) (dd d_Asb_newCapacity 4 rfl) rfl ?_
  refine g_aload_n (pc := 7) (dd d_Asb_newCapacity 5 rfl) rfl ?_
  refine g_get (pc := 8) (a := 55) (dd d_Asb_newCapacity 6 rfl) f_Asb_22 o55 (fv_coder hc) ?_
  refine g_ishl (pc := 11) (dd d_Asb_newCapacity 7 rfl) ?_
  rw [shl_0]
  refine g_istore_n (pc := 12) (dd d_Asb_newCapacity 8 rfl) (by decide) ?_
  refine g_iload_n (pc := 13) (dd d_Asb_newCapacity 9 rfl) rfl ?_
  refine g_iload_n (pc := 14) (dd d_Asb_newCapacity 10 rfl) rfl ?_
  refine g_isub (pc := 15) (dd d_Asb_newCapacity 11 rfl) ?_
  rw [nI_minus (by omega)]
  refine g_istore (pc := 16) (dd d_Asb_newCapacity 12 rfl) (by decide) ?_
  refine g_iload_n (pc := 18) (dd d_Asb_newCapacity 13 rfl) rfl ?_
  refine g_iload (pc := 19) (dd d_Asb_newCapacity 14 rfl) rfl ?_
  refine g_iload_n (pc := 21) (dd d_Asb_newCapacity 15 rfl) rfl ?_
  refine g_iconst (pc := 22) (v := nI 2) (dd d_Asb_newCapacity 16 rfl) (by decide) ?_
  refine g_aload_n (pc := 23) (dd d_Asb_newCapacity 17 rfl) rfl ?_
  refine g_get (pc := 24) (a := 55) (dd d_Asb_newCapacity 18 rfl) f_Asb_22 o55 (fv_coder hc) ?_
  refine g_ishl (pc := 27) (dd d_Asb_newCapacity 19 rfl) ?_
  rw [shl_0]
  refine g_iadd (pc := 28) (dd d_Asb_newCapacity 20 rfl) ?_
  rw [nI_add]
  refine g_callS (pc := 29) (dd d_Asb_newCapacity 21 rfl) s_Asb_114 (ev_newLength (by omega) (by omega) (by omega)) rfl (by rw [hk]; decide) (Nat.le_of_ble_eq_true rfl) ⟨Nat.zero_le _, Nat.zero_le _⟩ rfl ?_
  rw [show vL σ + (vL σ + 2) = 2 * vL σ + 2 by omega]
  refine g_istore (pc := 32) (dd d_Asb_newCapacity 22 rfl) (by decide) ?_
  refine g_iload (pc := 34) (dd d_Asb_newCapacity 23 rfl) rfl ?_
  refine g_ldc (pc := 36) (v := nI 2147483647) (dd d_Asb_newCapacity 24 rfl) (tk5 58 rfl rfl) ?_
  refine g_icmpne (pc := 38) (tgt := 51) (dd d_Asb_newCapacity 25 rfl) (by decide) (fun _ => ?_) (fun q => absurd (congrArg Int32.toInt q) (by rw [nI_toInt (by omega), nI_toInt (by omega)]; omega))
  refine g_iload (pc := 51) (dd d_Asb_newCapacity 31 rfl) rfl ?_
  refine g_aload_n (pc := 53) (dd d_Asb_newCapacity 32 rfl) rfl ?_
  refine g_get (pc := 54) (a := 55) (dd d_Asb_newCapacity 33 rfl) f_Asb_22 o55 (fv_coder hc) ?_
  refine g_ishr (pc := 57) (dd d_Asb_newCapacity 34 rfl) ?_
  rw [shr_0]
  exact g_iretE (pc := 58) rfl (dd d_Asb_newCapacity 35 rfl) hT (Nat.le_refl _) (Nat.le_refl _) rfl rfl
theorem nB_A {Δ : Dx} {σ : St} {N off : Nat} {f : Nat → Int32} : vA Δ (nB σ N off f) = vA Δ σ := by
  unfold vA
  rw [show (nB σ N off f).2.2 201 = σ.2.2 201 from nB_V (by decide)]
theorem nB_L {σ : St} {N off : Nat} {f : Nat → Int32} : vL (nB σ N off f) = vL σ := by
  unfold vL
  rw [show (nB σ N off f).2.2 201 = σ.2.2 201 from nB_V (by decide)]
theorem nB_o {σ : St} {N off : Nat} {f : Nat → Int32} : bO (nB σ N off f).2.2 = bO σ.2.2 ∧ rN ((nB σ N off f).2.2 203 7) = off := by
  refine ⟨?_, ?_⟩
  · unfold bO
    rw [show (nB σ N off f).2.2 201 = σ.2.2 201 from nB_V (by decide)]
  · show rN (upA σ.2.2 203 (fun j => if j = 6 then .ref N else .ref off) 203 7) = off
    rw [upA_s]
    rfl
theorem n_Arr_150 : Cond.methodLink "java/util/Arrays" 150 arraycopyName ∈ tb := tk5 70 rfl rfl
/-- what Arrays.copyOf makes of the line's row -/
def cpN (σ : St) : Nat → Int32 := va_cpy (vF σ) (fun _ => 0) 0 0 (vL σ)
theorem ev_copyOf {Δ : Dx} {σ : St} {N : Nat} (h0 : rN (σ.2.2 203 6) = 0) (hb : Vb σ) (h1 : vL σ < N) (h2 : N ≤ 70) : EvE Δ 1 m_Arr_copyOf [.ref (vA Δ σ), .int (nI N)] σ (fun x => some (.ref (Δ.ba + 142 + bO x.2.2 + rN (x.2.2 203 7)))) (fun x => ∃ off, x = nB σ N off (cpN σ)) 1 N := by
  refine evE_of (by decide) (Nat.le_of_ble_eq_true rfl) (fun Γ hk hR hT => ?_)
  refine g_iload_n (pc := 0) (dd d_Arr_copyOf 0 rfl) rfl ?_
  refine g_aload_n (pc := 1) (dd d_Arr_copyOf 1 rfl) rfl ?_
  refine g_alenV (pc := 2) (v := nI (vL σ)) (dd d_Arr_copyOf 2 rfl) rfl rfl ?_
  refine g_icmpne (pc := 3) (tgt := 14) (dd d_Arr_copyOf 3 rfl) (by decide) (fun _ => ?_) (fun q => absurd (congrArg Int32.toInt q) (by rw [nI_toInt (by omega), nI_toInt (by omega)]; omega))
  refine g_iload_n (pc := 14) (dd d_Arr_copyOf 8 rfl) rfl ?_
  refine g_newB (pc := 15) (dd d_Arr_copyOf 9 rfl) h0 (nI_pos (by omega)) (nI_clamp (by omega)) (by omega) (by omega) (by rw [hR]; exact Nat.le_refl _) (by rw [hR]; show 0 + N ≤ N; omega) (fun off => ?_)
  refine g_astore_n (pc := 17) (dd d_Arr_copyOf 10 rfl) (by decide) ?_
  refine g_aload_n (pc := 18) (dd d_Arr_copyOf 11 rfl) rfl ?_
  refine g_iconst (pc := 19) (v := 0) (dd d_Arr_copyOf 12 rfl) (by decide) ?_
  refine g_aload_n (pc := 20) (dd d_Arr_copyOf 13 rfl) rfl ?_
  refine g_iconst (pc := 21) (v := 0) (dd d_Arr_copyOf 14 rfl) (by decide) ?_
  refine g_aload_n (pc := 22) (dd d_Arr_copyOf 15 rfl) rfl ?_
  refine g_alenV (pc := 23) (v := nI (vL σ)) (dd d_Arr_copyOf 16 rfl) nB_A.symm (by rw [nB_L]) ?_
  refine g_iload_n (pc := 24) (dd d_Arr_copyOf 17 rfl) rfl ?_
  refine g_mmin (pc := 25) (dd d_Arr_copyOf 18 rfl) n_Arr_304 (by rw [hk]; decide) (Nat.le_of_ble_eq_true rfl) (by rw [hR]; exact Nat.le_refl _) (by rw [hR]; show 0 + N ≤ N; omega) ?_
  rw [if_neg (fun q => absurd ((nI_ltI (by omega) (by omega)).mp q) (by omega))]
  refine g_copyB (pc := 28) (dd d_Arr_copyOf 19 rfl) n_Arr_150 (by rw [hk]; decide) (Nat.le_of_ble_eq_true rfl) h0 (by omega) hb (nI_pos (by omega)) (nI_clamp (by omega)) (by omega) ?_
  refine g_aload_n (pc := 31) (dd d_Arr_copyOf 20 rfl) rfl ?_
  exact g_aretE (pc := 32) rfl (Or.inr ⟨_, rfl⟩) (dd d_Arr_copyOf 21 rfl) hT (by show 0 + 1 ≤ 1; omega) (by show 0 + N ≤ N; omega) ⟨off, rfl⟩ (by
    show some (Value.ref (Δ.ba + 142 + bO (nB σ N off (cpN σ)).2.2 + rN ((nB σ N off (cpN σ)).2.2 203 7))) = _
    rw [nB_o.1, nB_o.2])
/-- what changes when the line is written, and what doesn't -/
def Bf (σ σ' : St) : Prop := (∀ a, a ≠ 55 → a ≠ 56 → σ'.1 a = σ.1 a) ∧ (∀ k, k ≠ 2 → k ≠ 3 → σ'.1 55 k = σ.1 55 k) ∧ (∀ a, a ≠ 200 → σ'.2.1 a = σ.2.1 a) ∧ (∀ a, a ≠ 55 → a ≠ 201 → σ'.2.2 a = σ.2.2 a) ∧ (∀ k, k ≠ 0 → σ'.2.2 55 k = σ.2.2 55 k)
theorem Bf.rf {σ : St} : Bf σ σ := ⟨fun _ _ _ => rfl, fun _ _ _ => rfl, fun _ _ => rfl, fun _ _ _ => rfl, fun _ _ => rfl⟩
theorem Bf.tr {σ σ' σ'' : St} (h : Bf σ σ') (g : Bf σ' σ'') : Bf σ σ'' := ⟨fun a h1 h2 => (g.1 a h1 h2).trans (h.1 a h1 h2), fun k h1 h2 => (g.2.1 k h1 h2).trans (h.2.1 k h1 h2), fun a h1 => (g.2.2.1 a h1).trans (h.2.2.1 a h1), fun a h1 h2 => (g.2.2.2.1 a h1 h2).trans (h.2.2.2.1 a h1 h2), fun k h1 => (g.2.2.2.2 k h1).trans (h.2.2.2.2 k h1)⟩
theorem Bf.mvB {Δ : Dx} {σ : St} {N off : Nat} {f : Nat → Int32} : Bf σ (mvB Δ σ N off f) := by
  refine ⟨fun _ _ _ => rfl, fun _ _ _ => rfl, fun a h => mvB_J h, fun a h1 h2 => mvB_V h1 h2, fun k h => ?_⟩
  rw [mvB_5]
  exact if_neg h
theorem Bf.vS {σ : St} {f : Nat → Int32} : Bf σ (vS σ f) := by
  refine ⟨fun a _ h => vS_1 h, fun k _ _ => by rw [vS_1 (by decide)], fun a h => vS_2 h, fun a _ _ => by rw [vS_3], fun k _ => by rw [vS_3]⟩
def potL (n : Nat) : Nat := if n ≤ 16 then 2 else if n ≤ 34 then 1 else 0
def pot (σ : St) : Nat := potL (vL σ)
/-- the cells that are made until the line holds n signs -/
def cst (σ : St) (n : Nat) : Nat := pot σ - potL n
theorem potL_a {a b : Nat} (h : a ≤ b) : potL b ≤ potL a := by
  unfold potL
  split <;> split <;> (try split) <;> (try split) <;> omega
/-- the line's row holds n bytes; what it held it holds -/
def Gw (Δ : Dx) (σ : St) (n : Nat) (x : St) : Prop := Bf σ x ∧ DYX Δ x.2.2 ∧ Vb x ∧ n ≤ vL x ∧ x.1 55 = σ.1 55 ∧ (∀ i, i < vL σ → vF x i = vF σ i) ∧ pot x = min (pot σ) (potL n)
theorem ev_ensure {Δ : Dx} {σ : St} {mn : Nat} (hD : DYX Δ σ.2.2) (hb : Vb σ) (hc : σ.1 55 1 = 0) (h1 : mn ≤ 70) (h2 : mn ≤ 2 * vL σ + 2) : EvE Δ 3 m_Asb_ensureCapacityInternal [.ref (Δ.ba + 55), .int (nI mn)] σ (fun _ => none) (Gw Δ σ mn) (cst σ mn) (70 * cst σ mn) := by
  have hL := DYX_L hD
  refine evE_of (by decide) (Nat.le_of_ble_eq_true rfl) (fun Γ hk hR hT => ?_)
  refine g_aload_n (pc := 0) (dd d_Asb_ensureCapacityInternal 0 rfl) rfl ?_
  refine g_getr (pc := 1) (a := 55) (dd d_Asb_ensureCapacityInternal 1 rfl) f_Asb_15 o55 rfl (DYX_v hD) ?_
  refine g_alenV (pc := 4) (v := nI (vL σ)) (dd d_Asb_ensureCapacityInternal 2 rfl) rfl rfl ?_
  refine g_aload_n (pc := 5) (dd d_Asb_ensureCapacityInternal 3 rfl) rfl ?_
  refine g_get (pc := 6) (a := 55) (dd d_Asb_ensureCapacityInternal 4 rfl) f_Asb_22 o55 (fv_coder hc) ?_
  refine g_ishr (pc := 9) (dd d_Asb_ensureCapacityInternal 5 rfl) ?_
  rw [shr_0]
  refine g_istore_n (pc := 10) (dd d_Asb_ensureCapacityInternal 6 rfl) (by decide) ?_
  refine g_iload_n (pc := 11) (dd d_Asb_ensureCapacityInternal 7 rfl) rfl ?_
  refine g_iload_n (pc := 12) (dd d_Asb_ensureCapacityInternal 8 rfl) rfl ?_
  refine g_isub (pc := 13) (dd d_Asb_ensureCapacityInternal 9 rfl) ?_
  have hsub : (nI mn - nI (vL σ)).toInt = (mn : Int) - (vL σ : Int) := by
    rw [Int32.toInt_sub, nI_toInt (by omega), nI_toInt (by omega)]
    exact Int.bmod_eq_of_le (by omega) (by omega)
  refine g_ifle (pc := 14) (tgt := 38) (dd d_Asb_ensureCapacityInternal 10 rfl) (by decide) (fun q => ?_) (fun q => ?_)
  · have hle : mn ≤ vL σ := by
      rw [Int32.le_iff_toInt_le, hsub, show (0 : Int32).toInt = 0 from rfl] at q
      omega
    refine g_vretE (pc := 38) rfl (dd d_Asb_ensureCapacityInternal 22 rfl) hT (Nat.zero_le _) (Nat.zero_le _) ⟨Bf.rf, hD, hb, hle, rfl, fun _ _ => rfl, ?_⟩ rfl
    have := potL_a hle
    unfold pot
    omega
  · have hlt : vL σ < mn := by
      rw [Int32.le_iff_toInt_le, hsub, show (0 : Int32).toInt = 0 from rfl] at q
      omega
    have hcs : cst σ mn = 1 := by
      unfold cst pot potL
      rcases hL with e | e | e <;> rw [e] at hlt h2 ⊢
      · rw [if_pos (by decide), if_neg (by omega), if_pos (by omega)]
      · rw [if_neg (by decide), if_pos (by decide), if_neg (by omega), if_neg (by omega)]
      · omega
    have hN : 2 * vL σ + 2 = 34 ∨ 2 * vL σ + 2 = 70 := by omega
    refine g_aload_n (pc := 17) (dd d_Asb_ensureCapacityInternal 11 rfl) rfl ?_
    refine g_aload_n (pc := 18) (dd d_Asb_ensureCapacityInternal 12 rfl) rfl ?_
    refine g_getr (pc := 19) (a := 55) (dd d_Asb_ensureCapacityInternal 13 rfl) f_Asb_15 o55 rfl (DYX_v hD) ?_
    refine g_aload_n (pc := 22) (dd d_Asb_ensureCapacityInternal 14 rfl) rfl ?_
    refine g_iload_n (pc := 23) (dd d_Asb_ensureCapacityInternal 15 rfl) rfl ?_
    refine g_callPE (pc := 24) (dd d_Asb_ensureCapacityInternal 16 rfl) p_Asb_104 (ev_newCap hD hc hlt h2) rfl (by rw [hk]; decide) (Nat.le_of_ble_eq_true rfl) ⟨Nat.zero_le _, Nat.zero_le _⟩ rfl (fun x hx => ?_)
    subst hx
    refine g_aload_n (pc := 27) (dd d_Asb_ensureCapacityInternal 17 rfl) rfl ?_
    refine g_get (pc := 28) (a := 55) (dd d_Asb_ensureCapacityInternal 18 rfl) f_Asb_22 o55 (fv_coder hc) ?_
    refine g_ishl (pc := 31) (dd d_Asb_ensureCapacityInternal 19 rfl) ?_
    rw [shl_0]
    refine g_callSE (pc := 32) (dd d_Asb_ensureCapacityInternal 20 rfl) s_Asb_108 (ev_copyOf hD.1 hb (by omega) (by omega)) rfl (by rw [hk]; decide) (Nat.le_of_ble_eq_true rfl) ⟨by rw [hR, hcs]; exact Nat.le_refl _, by rw [hR, hcs]; show 0 + 0 + (2 * vL x + 2) ≤ 70 * 1; omega⟩ rfl (fun y hy => ?_)
    obtain ⟨off, rfl⟩ := hy
    rw [nB_o.1, nB_o.2]
    have hfit : ∀ k, fits .byte (.int (cpN x k)) = true := cpy_fit (fun i _ => vF_fit hb _) (fun _ => rfl)
    refine g_putR (pc := 35) (a := 55) (j := 0) (dd d_Asb_ensureCapacityInternal 21 rfl) f_Asb_15 (Or.inl fm_Sbd_0) o55 rfl (fun _ => rfl) (fun _ => rfl) ?_
    refine g_sub (W_mvB hfit hD.1 (by omega)) ?_
    refine g_vretE (pc := 38) rfl (dd d_Asb_ensureCapacityInternal 22 rfl) hT (by rw [hcs]; exact Nat.le_refl _) (by rw [hcs]; show 0 + 0 + (2 * vL x + 2) ≤ 70 * 1; omega) ⟨Bf.mvB, mvB_D hD.1 hN, hb, by rw [mvB_L (by omega)]; exact h2, rfl, fun i hi => ?_, ?_⟩ rfl
    · rw [mvB_F hfit (by omega)]
      show va_cpy (vF x) (fun _ => 0) 0 0 (vL x) i = vF x i
      unfold va_cpy
      rw [if_pos ⟨Nat.zero_le _, by omega⟩, Nat.sub_zero, Nat.zero_add]
    · unfold cst at hcs
      unfold pot
      rw [mvB_L (by omega)]
      unfold pot at hcs
      have e : potL (2 * vL x + 2) = potL mn := by
        unfold potL
        rcases hL with e | e | e <;> rw [e] at hlt h2 ⊢
        · rw [if_neg (by decide), if_pos (by decide), if_neg (by omega), if_pos (by omega)]
        · rw [if_neg (by decide), if_neg (by decide), if_neg (by omega), if_neg (by omega)]
        · omega
      rw [e]
      omega
