/-! the call listing, as the class makes it -/
/-- the sign at place i of a line -/
def atL (L : List Int32) (i : Nat) : Int32 := if i < L.length then ch8 (L.getD i 0) else -1
theorem nn_e {x : Int32} (h : 0 ≤ x) : ∃ i, i < 2 ^ 31 ∧ x = nI i := by
  have h2 := Int32.toInt_lt x
  rw [Int32.le_iff_toInt_le] at h
  have h0 : (0 : Int) ≤ x.toInt := h
  refine ⟨x.toInt.toNat, by omega, ?_⟩
  apply Int32.toInt_inj.mp
  rw [nI_toInt (by omega)]
  omega
theorem ex_line {Δ : Dx} {X : Lx} {rl hd ot pt it : Nat} (hX : EX Δ X rl hd ot pt it) : X.2 0 6 = .ref (Δ.ba + 55) := hX.fix (0, 6, 55) (by decide)
theorem ev_listing {Δ : Dx} {X : Lx} {rl hd ot pt it : Nat} (hX : EX Δ X rl hd ot pt it) {x1 : Int32} {i : Nat} {I : IM} (h0 : ¬ x1 < 0) (h1 : ¬ (64 : Int32) ≤ x1) (hb : inb x1 64) (hi : i < 2 ^ 31) (hB : Bw Δ (I, X)) : EvE Δ 8 m_Eng_listing [.ref (Δ.ba + 0), .int x1, .int (nI i)] (I, X) (fun _ => some (.int (atL (lineOf (I (hd + 1) x1.toNatClampNeg) (I (hd + 2) x1.toNatClampNeg)) i))) (lAP Δ (I, X) (lineOf (I (hd + 1) x1.toNatClampNeg) (I (hd + 2) x1.toNatClampNeg))) (cst (I, X) (lineOf (I (hd + 1) x1.toNatClampNeg) (I (hd + 2) x1.toNatClampNeg)).length) (70 * cst (I, X) (lineOf (I (hd + 1) x1.toNatClampNeg) (I (hd + 2) x1.toNatClampNeg)).length) := by
  refine evE_of (by decide) (Nat.le_of_ble_eq_true rfl) (fun Γ hk hR hT => ?_)
  change GG Δ m_Eng_listing Γ NN 0 0 (I, X) 0 [some (.ref (Δ.ba + 0)), some (.int x1), some (.int (nI i))] []
  refine g_iload_n (pc := 0) (dd d_Eng_listing 0 rfl) rfl ?_
  refine g_iflt (pc := 1) (tgt := 14) (dd d_Eng_listing 1 rfl) (by decide) (fun q => absurd q h0) (fun _ => ?_)
  refine g_iload_n (pc := 4) (dd d_Eng_listing 2 rfl) rfl ?_
  refine g_bipush (pc := 5) (v := 64) (dd d_Eng_listing 3 rfl) (by decide) ?_
  refine g_icmpge (pc := 7) (tgt := 14) (dd d_Eng_listing 4 rfl) (by decide) (fun q => absurd q h1) (fun _ => ?_)
  refine g_iload_n (pc := 10) (dd d_Eng_listing 5 rfl) rfl ?_
  refine g_ifge (pc := 11) (tgt := 24) (dd d_Eng_listing 6 rfl) (by decide) (fun _ => ?_) (fun q => absurd (nI_pos' hi) q)
  refine g_aload_n (pc := 24) (dd d_Eng_listing 12 rfl) rfl ?_
  refine g_aload_n (pc := 25) (dd d_Eng_listing 13 rfl) rfl ?_
  refine g_getr (pc := 26) (dd d_Eng_listing 14 rfl) f_Eng_66 oc_Eng rfl hX.r_hd ?_
  refine g_getr (pc := 29) (dd d_Eng_listing 15 rfl) f_Eng_119 (oc_Mch hX.i_hd) rfl (rx_Mch_3 hX hX.i_hd) ?_
  refine g_iload_n (pc := 32) (dd d_Eng_listing 16 rfl) rfl ?_
  refine g_iald (pc := 33) (dd d_Eng_listing 17 rfl) (ax_Mch_3 hX.i_hd) hb ?_
  refine g_aload_n (pc := 34) (dd d_Eng_listing 18 rfl) rfl ?_
  refine g_getr (pc := 35) (dd d_Eng_listing 19 rfl) f_Eng_66 oc_Eng rfl hX.r_hd ?_
  refine g_getr (pc := 38) (dd d_Eng_listing 20 rfl) f_Eng_123 (oc_Mch hX.i_hd) rfl (rx_Mch_4 hX hX.i_hd) ?_
  refine g_iload_n (pc := 41) (dd d_Eng_listing 21 rfl) rfl ?_
  refine g_iald (pc := 42) (dd d_Eng_listing 22 rfl) (ax_Mch_4 hX.i_hd) hb ?_
  generalize eL : lineOf (I (hd + 1) x1.toNatClampNeg) (I (hd + 2) x1.toNatClampNeg) = L at hT hR
  have hE := ev_wList (c := I (hd + 1) x1.toNatClampNeg) (t := I (hd + 2) x1.toNatClampNeg) hX.kx (ex_line hX) hB
  rw [eL] at hE
  refine g_callVE (pc := 43) (a := 0) (ci := 0) (dd d_Eng_listing 23 rfl) v_Eng_126 o0 rfl hE rfl (by rw [hk]; decide) (Nat.le_of_ble_eq_true rfl) ⟨by rw [hR]; exact Nat.le_of_eq (Nat.zero_add _), by rw [hR]; exact Nat.le_of_eq (Nat.zero_add _)⟩ rfl (fun y hy => ?_)
  have h6 : y.2.2 0 6 = .ref (Δ.ba + 55) := hy.1.line.trans (ex_line hX)
  have hle : L.length ≤ 70 := by
    have := DYX_L hy.2.1.1
    have := hy.2.1.2.2.2.2.1
    omega
  refine g_iload_n (pc := 46) (dd d_Eng_listing 24 rfl) rfl ?_
  refine g_aload_n (pc := 47) (dd d_Eng_listing 25 rfl) rfl ?_
  refine g_getr (pc := 48) (a := 0) (dd d_Eng_listing 26 rfl) f_Eng_56 o0 rfl h6 ?_
  refine g_callVE (pc := 51) (a := 55) (ci := 11) (dd d_Eng_listing 27 rfl) v_Eng_130 o55 rfl (ev_Slen hy.2.1) rfl (by rw [hk]; decide) (Nat.le_of_ble_eq_true rfl) ⟨by rw [hR]; show 0 + cst (I, X) L.length + 0 ≤ cst (I, X) L.length; omega, by rw [hR]; show 0 + 70 * cst (I, X) L.length + 0 ≤ 70 * cst (I, X) L.length; omega⟩ rfl (fun z hz => ?_)
  subst hz
  refine g_icmpge (pc := 54) (tgt := 68) (dd d_Eng_listing 28 rfl) (by decide) (fun q => ?_) (fun q => ?_)
  · have hq : ¬ i < L.length := by
      have := (nI_leI (by omega) hi).mp q
      omega
    refine g_iconst (pc := 68) (v := -1) (dd d_Eng_listing 34 rfl) (by decide) ?_
    exact g_iretE (pc := 69) rfl (dd d_Eng_listing 35 rfl) hT (by show 0 + cst (I, X) L.length + 0 ≤ _; omega) (by show 0 + 70 * cst (I, X) L.length + 0 ≤ _; omega) hy (by rw [show atL L i = -1 from if_neg hq])
  · have hq : i < L.length := Nat.lt_of_not_le (fun h => q (nI_le h hi))
    refine g_aload_n (pc := 57) (dd d_Eng_listing 29 rfl) rfl ?_
    refine g_getr (pc := 58) (a := 0) (dd d_Eng_listing 30 rfl) f_Eng_56 o0 rfl h6 ?_
    refine g_iload_n (pc := 61) (dd d_Eng_listing 31 rfl) rfl ?_
    refine g_callVE (pc := 62) (a := 55) (ci := 11) (dd d_Eng_listing 32 rfl) v_Eng_132 o55 rfl (ev_SchAt hy.2.1 hq) rfl (by rw [hk]; decide) (Nat.le_of_ble_eq_true rfl) ⟨by rw [hR]; show 0 + cst (I, X) L.length + 0 + 0 ≤ cst (I, X) L.length; omega, by rw [hR]; show 0 + 70 * cst (I, X) L.length + 0 + 0 ≤ 70 * cst (I, X) L.length; omega⟩ rfl (fun w hw => ?_)
    subst hw
    refine g_goto (pc := 65) (tgt := 69) (dd d_Eng_listing 33 rfl) (by decide) ?_
    exact g_iretE (pc := 69) rfl (dd d_Eng_listing 35 rfl) hT (by show 0 + cst (I, X) L.length + 0 + 0 ≤ _; omega) (by show 0 + 70 * cst (I, X) L.length + 0 + 0 ≤ _; omega) hy (by rw [show atL L i = ch8 (L.getD i 0) from if_pos hq])
/-- the law's wrapper over it -/
theorem lr_listE {Δ : Dx} {σ : St} {P : St → Prop} {j mc ms : Nat} {p0 p1 r : Int32} (hj : j < 60) (h1 : mc ≤ 8) (h2 : ms ≤ 400) (hE : EvE Δ j m_Eng_listing [.ref (Δ.ba + 0), .int p0, .int p1] σ (fun _ => some (.int r)) P mc ms) : EvXE Δ 60 m_Law_listing hs_listing [.ref (Δ.ba + 0), .int p0, .int p1, .ref (Δ.ba + OUT)] σ (fun _ => some (.int 0)) (fun y => ∃ x, P x ∧ y = stJ x OUT 0 r.toInt64) 8 400 := by
  refine evXE_of (by decide) (Nat.le_of_ble_eq_true rfl) (fun Γ hk hR hT _ => ?_)
  refine g_aload_n (pc := 0) (dd d_Law_listing 0 rfl) rfl ?_
  refine g_iconst (pc := 1) (v := 0) (dd d_Law_listing 1 rfl) (by decide) ?_
  refine g_aload_n (pc := 2) (dd d_Law_listing 2 rfl) rfl ?_
  refine g_iload_n (pc := 3) (dd d_Law_listing 3 rfl) rfl ?_
  refine g_iload_n (pc := 4) (dd d_Law_listing 4 rfl) rfl ?_
  refine g_callVE (pc := 5) (dd d_Law_listing 5 rfl) v_Law_21 ob_E rfl hE rfl (by rw [hk]; exact hj) (Nat.le_of_ble_eq_true rfl) (by rw [hR]; exact ⟨by show 0 + mc ≤ 8; omega, by show 0 + ms ≤ 400; omega⟩) rfl (fun x hx => ?_)
  refine g_i2l (pc := 8) (dd d_Law_listing 6 rfl) ?_
  refine g_last (pc := 9) (dd d_Law_listing 7 rfl) ar_OUT (by rw [vp_in_iff]; decide) ?_
  refine g_goto (pc := 10) (tgt := 17) (dd d_Law_listing 8 rfl) (by decide) ?_
  refine g_iconst (pc := 17) (v := 0) (dd d_Law_listing 12 rfl) (by decide) ?_
  exact g_iretE (pc := 18) rfl (dd d_Law_listing 13 rfl) hT (by omega) (by omega) ⟨x, hx, rfl⟩ rfl
/-- the thrown call is one of them too -/
theorem evXE_x {Δ : Dx} {k : Nat} {mi : MI} {hs : List (Nat × Nat × Nat × Nat)} {as : List Value} {σ σ' : St} {r : Option Value} {mc ms : Nat} (h : EvX Δ k mi hs as σ r σ' mc ms) : EvXE Δ k mi hs as σ (fun _ => r) (fun x => x = σ') mc ms := by
  unfold EvX at h
  unfold EvXE
  unfold Met at h ⊢
  exact h.mono (fun _ _ hp => hp) (fun _ _ _ _ _ hk => hk) (fun a st o t _ hq => ⟨⟨σ', rfl, hq.1⟩, hq.2⟩)
