def s_Rdr1 (Δ : Dx) (σ : St) : St := (pk 6 bs_ow (pk 6 bs_nw (pk 6 bs_kw (stR (stR (stR (stR (stR σ 1 6 (.ref (Δ.ba + 2))) 1 7 (.ref (Δ.ba + 3))) 1 8 (.ref (Δ.ba + 4))) 1 9 (.ref (Δ.ba + 5))) 1 10 (.ref (Δ.ba + 6))) 0 0).1 22 0).1 37 0).1
theorem fr_Rdr1 {Δ : Dx} {σ : St} (hF : ∀ a, 2 ≤ a → Fresh σ a) : ∀ a, 7 ≤ a → Fresh (s_Rdr1 Δ σ) a := by
  have F0 := hF
  have F1 := fS F0
  have F2 := fR (b := 1) (j := 6) (v := .ref (Δ.ba + 2)) F1 (by decide)
  have F3 := fS F2
  have F4 := fR (b := 1) (j := 7) (v := .ref (Δ.ba + 3)) F3 (by decide)
  have F5 := fS F4
  have F6 := fR (b := 1) (j := 8) (v := .ref (Δ.ba + 4)) F5 (by decide)
  have F7 := fS F6
  have F8 := fR (b := 1) (j := 9) (v := .ref (Δ.ba + 5)) F7 (by decide)
  have F9 := fS F8
  have F10 := fR (b := 1) (j := 10) (v := .ref (Δ.ba + 6)) F9 (by decide)
  have F11 := fPk (b := 6) (l := bs_kw) (k := 0) (p := 0) F10 (by decide)
  have F12 := fPk (b := 6) (l := bs_nw) (k := 22) (p := 0) F11 (by decide)
  have F13 := fPk (b := 6) (l := bs_ow) (k := 37) (p := 0) F12 (by decide)
  exact F13
set_option maxRecDepth 20000 in
set_option maxHeartbeats 4000000 in
theorem ec_Rdr1 {Δ : Dx} {σ : St} (hKx : Kx Δ Δ.s0) (hF : ∀ a, 2 ≤ a → Fresh σ a) : EvC Δ 5 m_Rdr_init 2 [.ref (Δ.ba + 1)] σ 7 (s_Rdr1 Δ σ) 5 3653 := by
  refine evC_of (by decide) (Nat.le_of_ble_eq_true rfl) (fun Γ hk hR hT hz => ?_)
  unfold s_Rdr1 at hT
  have F0 := hF
  refine g_aload_n (pc := 0) (dd d_Rdr_init 0 rfl) rfl ?_
  refine g_objInit (pc := 1) (dd d_Rdr_init 1 rfl) oi_Rdr_3 oi_1 oi_2 (by rw [hk]; decide) (Nat.le_of_ble_eq_true rfl) ?_
  refine g_aload_n (pc := 4) (dd d_Rdr_init 2 rfl) rfl ?_
  refine g_sipush (pc := 5) (v := 900) (dd d_Rdr_init 3 rfl) (by decide) ?_
  refine g_newa (pc := 8) (N := 900) (t := 2) (dd d_Rdr_init 4 rfl) rfl ac_char rfl rfl (by decide) (by decide) (by decide) (F0 _ (by decide)) (by omega) (by rw [hR]; decide) (by rw [hR]; decide) (Or.inr (Or.inr (Or.inl rfl))) ?_
  have F1 := fS F0
  refine g_putR (pc := 10) (j := 6) (dd d_Rdr_init 5 rfl) f_Rdr_9 (Or.inr ⟨fi_Rdr_6, rfl⟩) ⟨by decide, rfl⟩ rfl (fun _ => rfl) (fun _ => rfl) ?_
  have F2 := fR (b := 1) (j := 6) (v := .ref (Δ.ba + 2)) F1 (by decide)
  refine g_aload_n (pc := 13) (dd d_Rdr_init 6 rfl) rfl ?_
  refine g_sipush (pc := 14) (v := 901) (dd d_Rdr_init 7 rfl) (by decide) ?_
  refine g_newa (pc := 17) (N := 901) (t := 0) (dd d_Rdr_init 8 rfl) rfl ac_int rfl rfl (by decide) (by decide) (by decide) (F2 _ (by decide)) (by omega) (by rw [hR]; decide) (by rw [hR]; decide) (Or.inl rfl) ?_
  have F3 := fS F2
  refine g_putR (pc := 19) (j := 7) (dd d_Rdr_init 9 rfl) f_Rdr_15 (Or.inr ⟨fi_Rdr_7, rfl⟩) ⟨by decide, rfl⟩ rfl (fun _ => rfl) (fun _ => rfl) ?_
  have F4 := fR (b := 1) (j := 7) (v := .ref (Δ.ba + 3)) F3 (by decide)
  refine g_aload_n (pc := 22) (dd d_Rdr_init 10 rfl) rfl ?_
  refine g_sipush (pc := 23) (v := 901) (dd d_Rdr_init 11 rfl) (by decide) ?_
  refine g_newa (pc := 26) (N := 901) (t := 0) (dd d_Rdr_init 12 rfl) rfl ac_int rfl rfl (by decide) (by decide) (by decide) (F4 _ (by decide)) (by omega) (by rw [hR]; decide) (by rw [hR]; decide) (Or.inl rfl) ?_
  have F5 := fS F4
  refine g_putR (pc := 28) (j := 8) (dd d_Rdr_init 13 rfl) f_Rdr_19 (Or.inr ⟨fi_Rdr_8, rfl⟩) ⟨by decide, rfl⟩ rfl (fun _ => rfl) (fun _ => rfl) ?_
  have F6 := fR (b := 1) (j := 8) (v := .ref (Δ.ba + 4)) F5 (by decide)
  refine g_aload_n (pc := 31) (dd d_Rdr_init 14 rfl) rfl ?_
  refine g_sipush (pc := 32) (v := 901) (dd d_Rdr_init 15 rfl) (by decide) ?_
  refine g_newa (pc := 35) (N := 901) (t := 0) (dd d_Rdr_init 16 rfl) rfl ac_int rfl rfl (by decide) (by decide) (by decide) (F6 _ (by decide)) (by omega) (by rw [hR]; decide) (by rw [hR]; decide) (Or.inl rfl) ?_
  have F7 := fS F6
  refine g_putR (pc := 37) (j := 9) (dd d_Rdr_init 17 rfl) f_Rdr_22 (Or.inr ⟨fi_Rdr_9, rfl⟩) ⟨by decide, rfl⟩ rfl (fun _ => rfl) (fun _ => rfl) ?_
  have F8 := fR (b := 1) (j := 9) (v := .ref (Δ.ba + 5)) F7 (by decide)
  refine g_aload_n (pc := 40) (dd d_Rdr_init 18 rfl) rfl ?_
  refine g_bipush (pc := 41) (v := 50) (dd d_Rdr_init 19 rfl) (by decide) ?_
  refine g_newa (pc := 43) (N := 50) (t := 1) (dd d_Rdr_init 20 rfl) rfl ac_long rfl rfl (by decide) (by decide) (by decide) (F8 _ (by decide)) (by omega) (by rw [hR]; decide) (by rw [hR]; decide) (Or.inr (Or.inl rfl)) ?_
  have F9 := fS F8
  refine g_putR (pc := 45) (j := 10) (dd d_Rdr_init 21 rfl) f_Rdr_25 (Or.inr ⟨fi_Rdr_10, rfl⟩) ⟨by decide, rfl⟩ rfl (fun _ => rfl) (fun _ => rfl) ?_
  have F10 := fR (b := 1) (j := 10) (v := .ref (Δ.ba + 6)) F9 (by decide)
  refine g_ldcS (pc := 48) (dd d_Rdr_init 22 rfl) sr_kw sf_kw_0 ?_
  refine g_aload_n (pc := 50) (dd d_Rdr_init 23 rfl) rfl ?_
  refine g_getr (pc := 51) (v := .ref (Δ.ba + 6)) (dd d_Rdr_init 24 rfl) f_Rdr_25 ⟨by decide, rfl⟩ rfl (by rfl) ?_
  refine g_iconst (pc := 54) (v := 0) (dd d_Rdr_init 25 rfl) (by decide) ?_
  refine g_callS (pc := 55) (dd d_Rdr_init 26 rfl) s_Rdr_31 (ev_Rdr_packWords (f := 0) (sg_kw hKx) ⟨by decide, rfl⟩ ok_kw (by decide)) rfl (by rw [hk]; decide) (Nat.le_of_ble_eq_true rfl) (by rw [hR]; exact ⟨by decide, by decide⟩) rfl ?_
  have F11 := fPk (b := 6) (l := bs_kw) (k := 0) (p := 0) F10 (by decide)
  rw [show (pk 6 bs_kw (stR (stR (stR (stR (stR σ 1 6 (.ref (Δ.ba + 2))) 1 7 (.ref (Δ.ba + 3))) 1 8 (.ref (Δ.ba + 4))) 1 9 (.ref (Δ.ba + 5))) 1 10 (.ref (Δ.ba + 6))) 0 0).2 = 22 from pk_2 (by decide +kernel)]
  refine g_istore_n (pc := 58) (dd d_Rdr_init 27 rfl) (by decide) ?_
  refine g_ldcS (pc := 59) (dd d_Rdr_init 28 rfl) sr_nw sf_nw_0 ?_
  refine g_aload_n (pc := 61) (dd d_Rdr_init 29 rfl) rfl ?_
  refine g_getr (pc := 62) (v := .ref (Δ.ba + 6)) (dd d_Rdr_init 30 rfl) f_Rdr_25 ⟨by decide, rfl⟩ rfl (by rfl) ?_
  refine g_iload_n (pc := 65) (dd d_Rdr_init 31 rfl) rfl ?_
  refine g_callS (pc := 66) (dd d_Rdr_init 32 rfl) s_Rdr_31 (ev_Rdr_packWords (f := 22) (sg_nw hKx) ⟨by decide, rfl⟩ ok_nw (by decide)) rfl (by rw [hk]; decide) (Nat.le_of_ble_eq_true rfl) (by rw [hR]; exact ⟨by decide, by decide⟩) rfl ?_
  have F12 := fPk (b := 6) (l := bs_nw) (k := 22) (p := 0) F11 (by decide)
  rw [show (pk 6 bs_nw (pk 6 bs_kw (stR (stR (stR (stR (stR σ 1 6 (.ref (Δ.ba + 2))) 1 7 (.ref (Δ.ba + 3))) 1 8 (.ref (Δ.ba + 4))) 1 9 (.ref (Δ.ba + 5))) 1 10 (.ref (Δ.ba + 6))) 0 0).1 22 0).2 = 37 from pk_2 (by decide +kernel)]
  refine g_istore_n (pc := 69) (dd d_Rdr_init 33 rfl) (by decide) ?_
  refine g_ldcS (pc := 70) (dd d_Rdr_init 34 rfl) sr_ow sf_ow_0 ?_
  refine g_aload_n (pc := 72) (dd d_Rdr_init 35 rfl) rfl ?_
  refine g_getr (pc := 73) (v := .ref (Δ.ba + 6)) (dd d_Rdr_init 36 rfl) f_Rdr_25 ⟨by decide, rfl⟩ rfl (by rfl) ?_
  refine g_iload_n (pc := 76) (dd d_Rdr_init 37 rfl) rfl ?_
  refine g_callS (pc := 77) (dd d_Rdr_init 38 rfl) s_Rdr_31 (ev_Rdr_packWords (f := 37) (sg_ow hKx) ⟨by decide, rfl⟩ ok_ow (by decide)) rfl (by rw [hk]; decide) (Nat.le_of_ble_eq_true rfl) (by rw [hR]; exact ⟨by decide, by decide⟩) rfl ?_
  have F13 := fPk (b := 6) (l := bs_ow) (k := 37) (p := 0) F12 (by decide)
  rw [show (pk 6 bs_ow (pk 6 bs_nw (pk 6 bs_kw (stR (stR (stR (stR (stR σ 1 6 (.ref (Δ.ba + 2))) 1 7 (.ref (Δ.ba + 3))) 1 8 (.ref (Δ.ba + 4))) 1 9 (.ref (Δ.ba + 5))) 1 10 (.ref (Δ.ba + 6))) 0 0).1 22 0).1 37 0).2 = 50 from pk_2 (by decide +kernel)]
  refine g_pop (pc := 80) (dd d_Rdr_init 39 rfl) rfl ?_
  exact g_vret (pc := 81) rfl (dd d_Rdr_init 40 rfl) hT
def s_Pol8 (Δ : Dx) (σ : St) : St := (fillI (stR (stR (stR (stR (stR (stR σ 8 1 (.ref (Δ.ba + 9))) 8 2 (.ref (Δ.ba + 10))) 8 3 (.ref (Δ.ba + 11))) 8 4 (.ref (Δ.ba + 12))) 8 5 (.ref (Δ.ba + 13))) 8 6 (.ref (Δ.ba + 14))) 13 22 (-1))
theorem fr_Pol8 {Δ : Dx} {σ : St} (hF : ∀ a, 9 ≤ a → Fresh σ a) : ∀ a, 15 ≤ a → Fresh (s_Pol8 Δ σ) a := by
  have F0 := hF
  have F1 := fS F0
  have F2 := fR (b := 8) (j := 1) (v := .ref (Δ.ba + 9)) F1 (by decide)
  have F3 := fS F2
  have F4 := fR (b := 8) (j := 2) (v := .ref (Δ.ba + 10)) F3 (by decide)
  have F5 := fS F4
  have F6 := fR (b := 8) (j := 3) (v := .ref (Δ.ba + 11)) F5 (by decide)
  have F7 := fS F6
  have F8 := fR (b := 8) (j := 4) (v := .ref (Δ.ba + 12)) F7 (by decide)
  have F9 := fS F8
  have F10 := fR (b := 8) (j := 5) (v := .ref (Δ.ba + 13)) F9 (by decide)
  have F11 := fS F10
  have F12 := fR (b := 8) (j := 6) (v := .ref (Δ.ba + 14)) F11 (by decide)
  have F13 := fFill (b := 13) (N := 22) (v := (-1)) F12 (by decide)
  exact F13
set_option maxRecDepth 20000 in
set_option maxHeartbeats 4000000 in
theorem ec_Pol8 {Δ : Dx} {σ : St} (hF : ∀ a, 9 ≤ a → Fresh σ a) : EvC Δ 1 m_Pol_init 9 [.ref (Δ.ba + 8)] σ 15 (s_Pol8 Δ σ) 6 1888 := by
  refine evC_of (by decide) (Nat.le_of_ble_eq_true rfl) (fun Γ hk hR hT hz => ?_)
  unfold s_Pol8 at hT
  have F0 := hF
  refine g_aload_n (pc := 0) (dd d_Pol_init 0 rfl) rfl ?_
  refine g_objInit (pc := 1) (dd d_Pol_init 1 rfl) oi_Pol_3 oi_1 oi_2 (by rw [hk]; decide) (Nat.le_of_ble_eq_true rfl) ?_
  refine g_aload_n (pc := 4) (dd d_Pol_init 2 rfl) rfl ?_
  refine g_sipush (pc := 5) (v := 900) (dd d_Pol_init 3 rfl) (by decide) ?_
  refine g_newa (pc := 8) (N := 900) (t := 0) (dd d_Pol_init 4 rfl) rfl ac_int rfl rfl (by decide) (by decide) (by decide) (F0 _ (by decide)) (by omega) (by rw [hR]; decide) (by rw [hR]; decide) (Or.inl rfl) ?_
  have F1 := fS F0
  refine g_putR (pc := 10) (j := 1) (dd d_Pol_init 5 rfl) f_Pol_9 (Or.inr ⟨fi_Pol_1, rfl⟩) ⟨by decide, rfl⟩ rfl (fun _ => rfl) (fun _ => rfl) ?_
  have F2 := fR (b := 8) (j := 1) (v := .ref (Δ.ba + 9)) F1 (by decide)
  refine g_aload_n (pc := 13) (dd d_Pol_init 6 rfl) rfl ?_
  refine g_sipush (pc := 14) (v := 900) (dd d_Pol_init 7 rfl) (by decide) ?_
  refine g_newa (pc := 17) (N := 900) (t := 0) (dd d_Pol_init 8 rfl) rfl ac_int rfl rfl (by decide) (by decide) (by decide) (F2 _ (by decide)) (by omega) (by rw [hR]; decide) (by rw [hR]; decide) (Or.inl rfl) ?_
  have F3 := fS F2
  refine g_putR (pc := 19) (j := 2) (dd d_Pol_init 9 rfl) f_Pol_15 (Or.inr ⟨fi_Pol_2, rfl⟩) ⟨by decide, rfl⟩ rfl (fun _ => rfl) (fun _ => rfl) ?_
  have F4 := fR (b := 8) (j := 2) (v := .ref (Δ.ba + 10)) F3 (by decide)
  refine g_aload_n (pc := 22) (dd d_Pol_init 10 rfl) rfl ?_
  refine g_bipush (pc := 23) (v := 22) (dd d_Pol_init 11 rfl) (by decide) ?_
  refine g_newa (pc := 25) (N := 22) (t := 0) (dd d_Pol_init 12 rfl) rfl ac_int rfl rfl (by decide) (by decide) (by decide) (F4 _ (by decide)) (by omega) (by rw [hR]; decide) (by rw [hR]; decide) (Or.inl rfl) ?_
  have F5 := fS F4
  refine g_putR (pc := 27) (j := 3) (dd d_Pol_init 13 rfl) f_Pol_18 (Or.inr ⟨fi_Pol_3, rfl⟩) ⟨by decide, rfl⟩ rfl (fun _ => rfl) (fun _ => rfl) ?_
  have F6 := fR (b := 8) (j := 3) (v := .ref (Δ.ba + 11)) F5 (by decide)
  refine g_aload_n (pc := 30) (dd d_Pol_init 14 rfl) rfl ?_
  refine g_bipush (pc := 31) (v := 22) (dd d_Pol_init 15 rfl) (by decide) ?_
  refine g_newa (pc := 33) (N := 22) (t := 0) (dd d_Pol_init 16 rfl) rfl ac_int rfl rfl (by decide) (by decide) (by decide) (F6 _ (by decide)) (by omega) (by rw [hR]; decide) (by rw [hR]; decide) (Or.inl rfl) ?_
  have F7 := fS F6
  refine g_putR (pc := 35) (j := 4) (dd d_Pol_init 17 rfl) f_Pol_21 (Or.inr ⟨fi_Pol_4, rfl⟩) ⟨by decide, rfl⟩ rfl (fun _ => rfl) (fun _ => rfl) ?_
  have F8 := fR (b := 8) (j := 4) (v := .ref (Δ.ba + 12)) F7 (by decide)
  refine g_aload_n (pc := 38) (dd d_Pol_init 18 rfl) rfl ?_
  refine g_bipush (pc := 39) (v := 22) (dd d_Pol_init 19 rfl) (by decide) ?_
  refine g_newa (pc := 41) (N := 22) (t := 0) (dd d_Pol_init 20 rfl) rfl ac_int rfl rfl (by decide) (by decide) (by decide) (F8 _ (by decide)) (by omega) (by rw [hR]; decide) (by rw [hR]; decide) (Or.inl rfl) ?_
  have F9 := fS F8
  refine g_putR (pc := 43) (j := 5) (dd d_Pol_init 21 rfl) f_Pol_24 (Or.inr ⟨fi_Pol_5, rfl⟩) ⟨by decide, rfl⟩ rfl (fun _ => rfl) (fun _ => rfl) ?_
  have F10 := fR (b := 8) (j := 5) (v := .ref (Δ.ba + 13)) F9 (by decide)
  refine g_aload_n (pc := 46) (dd d_Pol_init 22 rfl) rfl ?_
  refine g_bipush (pc := 47) (v := 22) (dd d_Pol_init 23 rfl) (by decide) ?_
  refine g_newa (pc := 49) (N := 22) (t := 0) (dd d_Pol_init 24 rfl) rfl ac_int rfl rfl (by decide) (by decide) (by decide) (F10 _ (by decide)) (by omega) (by rw [hR]; decide) (by rw [hR]; decide) (Or.inl rfl) ?_
  have F11 := fS F10
  refine g_putR (pc := 51) (j := 6) (dd d_Pol_init 25 rfl) f_Pol_27 (Or.inr ⟨fi_Pol_6, rfl⟩) ⟨by decide, rfl⟩ rfl (fun _ => rfl) (fun _ => rfl) ?_
  have F12 := fR (b := 8) (j := 6) (v := .ref (Δ.ba + 14)) F11 (by decide)
  refine g_aload_n (pc := 54) (dd d_Pol_init 26 rfl) rfl ?_
  refine g_getr (pc := 55) (v := .ref (Δ.ba + 13)) (dd d_Pol_init 27 rfl) f_Pol_24 ⟨by decide, rfl⟩ rfl (by rfl) ?_
  refine g_iconst (pc := 58) (v := (-1)) (dd d_Pol_init 28 rfl) (by decide) ?_
  refine g_callS (pc := 59) (dd d_Pol_init 29 rfl) s_Pol_30 (ev_fill (N := 22) (-1) ⟨by decide, rfl⟩ (by decide)) rfl (by rw [hk]; decide) (Nat.le_of_ble_eq_true rfl) (by rw [hR]; exact ⟨by decide, by decide⟩) rfl ?_
  have F13 := fFill (b := 13) (N := 22) (v := (-1)) F12 (by decide)
  exact g_vret (pc := 62) rfl (dd d_Pol_init 30 rfl) hT
def s_Prd7 (Δ : Dx) (σ : St) : St := (stR (s_Pol8 Δ (stR σ 7 0 (.ref (Δ.ba + 1)))) 7 1 (.ref (Δ.ba + 8)))
theorem fr_Prd7 {Δ : Dx} {σ : St} (hF : ∀ a, 8 ≤ a → Fresh σ a) : ∀ a, 15 ≤ a → Fresh (s_Prd7 Δ σ) a := by
  have F0 := hF
  have F1 := fR (b := 7) (j := 0) (v := .ref (Δ.ba + 1)) F0 (by decide)
  have F2 := fS F1
  have F3 := fr_Pol8 (Δ := Δ) F2
  have F4 := fR (b := 7) (j := 1) (v := .ref (Δ.ba + 8)) F3 (by decide)
  exact F4
set_option maxRecDepth 20000 in
set_option maxHeartbeats 4000000 in
theorem ec_Prd7 {Δ : Dx} {σ : St} (hF : ∀ a, 8 ≤ a → Fresh σ a) : EvC Δ 2 m_Prd_init 8 [.ref (Δ.ba + 7), .ref (Δ.ba + 1)] σ 15 (s_Prd7 Δ σ) 7 1895 := by
  refine evC_of (by decide) (Nat.le_of_ble_eq_true rfl) (fun Γ hk hR hT hz => ?_)
  unfold s_Prd7 at hT
  have F0 := hF
  refine g_aload_n (pc := 0) (dd d_Prd_init 0 rfl) rfl ?_
  refine g_objInit (pc := 1) (dd d_Prd_init 1 rfl) oi_Prd_3 oi_1 oi_2 (by rw [hk]; decide) (Nat.le_of_ble_eq_true rfl) ?_
  refine g_aload_n (pc := 4) (dd d_Prd_init 2 rfl) rfl ?_
  refine g_aload_n (pc := 5) (dd d_Prd_init 3 rfl) rfl ?_
  refine g_putR (pc := 6) (j := 0) (dd d_Prd_init 4 rfl) f_Prd_9 (Or.inr ⟨fi_Prd_0, rfl⟩) ⟨by decide, rfl⟩ rfl (fun _ => rfl) (fun _ => rfl) ?_
  have F1 := fR (b := 7) (j := 0) (v := .ref (Δ.ba + 1)) F0 (by decide)
  refine g_aload_n (pc := 9) (dd d_Prd_init 5 rfl) rfl ?_
  refine g_new (pc := 10) (dd d_Prd_init 6 rfl) nw_Prd_15 rfl (F1 _ (by decide)) (by omega) (by rw [hR]; decide) (by rw [hR]; decide) ?_
  have F2 := fS F1
  refine g_dup (pc := 13) (dd d_Prd_init 7 rfl) rfl ?_
  refine g_callI (pc := 14) (dd d_Prd_init 8 rfl) ci_Prd_17 (ec_Pol8 F2) rfl (by rw [hk]; decide) (Nat.le_of_ble_eq_true rfl) (by rw [hR]; exact ⟨by decide, by decide⟩) rfl (by omega) ?_
  have F3 := fr_Pol8 (Δ := Δ) F2
  refine g_putR (pc := 17) (j := 1) (dd d_Prd_init 9 rfl) f_Prd_18 (Or.inl fm_Prd_1) ⟨by decide, rfl⟩ rfl (fun _ => rfl) (fun _ => rfl) ?_
  have F4 := fR (b := 7) (j := 1) (v := .ref (Δ.ba + 8)) F3 (by decide)
  exact g_vret (pc := 20) rfl (dd d_Prd_init 10 rfl) hT
def s_Rng31 (Δ : Dx) (σ : St) : St := (stR (stI (stI σ 31 2 8) 31 3 25) 31 4 (.ref (Δ.ba + 32)))
theorem fr_Rng31 {Δ : Dx} {σ : St} (hF : ∀ a, 33 ≤ a → Fresh σ a) : ∀ a, 33 ≤ a → Fresh (s_Rng31 Δ σ) a := by
  have F0 := hF
  have F1 := fI (b := 31) (j := 2) (v := 8) F0 (by decide)
  have F2 := fI (b := 31) (j := 3) (v := 25) F1 (by decide)
  have F3 := fR (b := 31) (j := 4) (v := .ref (Δ.ba + 32)) F2 (by decide)
  exact F3
set_option maxRecDepth 20000 in
set_option maxHeartbeats 4000000 in
theorem ec_Rng31 {Δ : Dx} {σ : St} (hF : ∀ a, 33 ≤ a → Fresh σ a) : EvC Δ 1 m_Rng_init 33 [.ref (Δ.ba + 31), .int 8, .int 25, .ref (Δ.ba + 32)] σ 33 (s_Rng31 Δ σ) 0 0 := by
  refine evC_of (by decide) (Nat.le_of_ble_eq_true rfl) (fun Γ hk hR hT hz => ?_)
  unfold s_Rng31 at hT
  have F0 := hF
  refine g_aload_n (pc := 0) (dd d_Rng_init 0 rfl) rfl ?_
  refine g_objInit (pc := 1) (dd d_Rng_init 1 rfl) oi_Rng_3 oi_1 oi_2 (by rw [hk]; decide) (Nat.le_of_ble_eq_true rfl) ?_
  refine g_aload_n (pc := 4) (dd d_Rng_init 2 rfl) rfl ?_
  refine g_iload_n (pc := 5) (dd d_Rng_init 3 rfl) rfl ?_
  refine g_putI (pc := 6) (j := 2) (dd d_Rng_init 4 rfl) f_Rng_9 (Or.inr ⟨fi_Rng_2, rfl⟩) ⟨by decide, rfl⟩ rfl ?_
  have F1 := fI (b := 31) (j := 2) (v := 8) F0 (by decide)
  refine g_aload_n (pc := 9) (dd d_Rng_init 5 rfl) rfl ?_
  refine g_iload_n (pc := 10) (dd d_Rng_init 6 rfl) rfl ?_
  refine g_putI (pc := 11) (j := 3) (dd d_Rng_init 7 rfl) f_Rng_15 (Or.inr ⟨fi_Rng_3, rfl⟩) ⟨by decide, rfl⟩ rfl ?_
  have F2 := fI (b := 31) (j := 3) (v := 25) F1 (by decide)
  refine g_aload_n (pc := 14) (dd d_Rng_init 8 rfl) rfl ?_
  refine g_aload_n (pc := 15) (dd d_Rng_init 9 rfl) rfl ?_
  refine g_putR (pc := 16) (j := 4) (dd d_Rng_init 10 rfl) f_Rng_18 (Or.inr ⟨fi_Rng_4, rfl⟩) ⟨by decide, rfl⟩ rfl (fun _ => rfl) (fun _ => rfl) ?_
  have F3 := fR (b := 31) (j := 4) (v := .ref (Δ.ba + 32)) F2 (by decide)
  exact g_vret (pc := 19) rfl (dd d_Rng_init 11 rfl) hT
def s_Rng33 (Δ : Dx) (σ : St) : St := (stR (stI (stI σ 33 2 16) 33 3 6) 33 4 (.ref (Δ.ba + 34)))
theorem fr_Rng33 {Δ : Dx} {σ : St} (hF : ∀ a, 35 ≤ a → Fresh σ a) : ∀ a, 35 ≤ a → Fresh (s_Rng33 Δ σ) a := by
  have F0 := hF
  have F1 := fI (b := 33) (j := 2) (v := 16) F0 (by decide)
  have F2 := fI (b := 33) (j := 3) (v := 6) F1 (by decide)
  have F3 := fR (b := 33) (j := 4) (v := .ref (Δ.ba + 34)) F2 (by decide)
  exact F3
set_option maxRecDepth 20000 in
set_option maxHeartbeats 4000000 in
theorem ec_Rng33 {Δ : Dx} {σ : St} (hF : ∀ a, 35 ≤ a → Fresh σ a) : EvC Δ 1 m_Rng_init 35 [.ref (Δ.ba + 33), .int 16, .int 6, .ref (Δ.ba + 34)] σ 35 (s_Rng33 Δ σ) 0 0 := by
  refine evC_of (by decide) (Nat.le_of_ble_eq_true rfl) (fun Γ hk hR hT hz => ?_)
  unfold s_Rng33 at hT
  have F0 := hF
  refine g_aload_n (pc := 0) (dd d_Rng_init 0 rfl) rfl ?_
  refine g_objInit (pc := 1) (dd d_Rng_init 1 rfl) oi_Rng_3 oi_1 oi_2 (by rw [hk]; decide) (Nat.le_of_ble_eq_true rfl) ?_
  refine g_aload_n (pc := 4) (dd d_Rng_init 2 rfl) rfl ?_
  refine g_iload_n (pc := 5) (dd d_Rng_init 3 rfl) rfl ?_
  refine g_putI (pc := 6) (j := 2) (dd d_Rng_init 4 rfl) f_Rng_9 (Or.inr ⟨fi_Rng_2, rfl⟩) ⟨by decide, rfl⟩ rfl ?_
  have F1 := fI (b := 33) (j := 2) (v := 16) F0 (by decide)
  refine g_aload_n (pc := 9) (dd d_Rng_init 5 rfl) rfl ?_
  refine g_iload_n (pc := 10) (dd d_Rng_init 6 rfl) rfl ?_
  refine g_putI (pc := 11) (j := 3) (dd d_Rng_init 7 rfl) f_Rng_15 (Or.inr ⟨fi_Rng_3, rfl⟩) ⟨by decide, rfl⟩ rfl ?_
  have F2 := fI (b := 33) (j := 3) (v := 6) F1 (by decide)
  refine g_aload_n (pc := 14) (dd d_Rng_init 8 rfl) rfl ?_
  refine g_aload_n (pc := 15) (dd d_Rng_init 9 rfl) rfl ?_
  refine g_putR (pc := 16) (j := 4) (dd d_Rng_init 10 rfl) f_Rng_18 (Or.inr ⟨fi_Rng_4, rfl⟩) ⟨by decide, rfl⟩ rfl (fun _ => rfl) (fun _ => rfl) ?_
  have F3 := fR (b := 33) (j := 4) (v := .ref (Δ.ba + 34)) F2 (by decide)
  exact g_vret (pc := 19) rfl (dd d_Rng_init 11 rfl) hT
def s_Mch16 (Δ : Dx) (σ : St) : St := (stI (stI (stR (s_Rng33 Δ (stR (s_Rng31 Δ (stR (stR (stR (stR (stR (stR (stR (stR (stR (stR (stR (stR (stR (stR σ 16 3 (.ref (Δ.ba + 17))) 16 4 (.ref (Δ.ba + 18))) 16 5 (.ref (Δ.ba + 19))) 16 6 (.ref (Δ.ba + 20))) 16 7 (.ref (Δ.ba + 21))) 16 8 (.ref (Δ.ba + 22))) 16 9 (.ref (Δ.ba + 23))) 16 10 (.ref (Δ.ba + 24))) 16 11 (.ref (Δ.ba + 25))) 16 12 (.ref (Δ.ba + 26))) 16 13 (.ref (Δ.ba + 27))) 16 14 (.ref (Δ.ba + 28))) 16 15 (.ref (Δ.ba + 29))) 16 16 (.ref (Δ.ba + 30)))) 16 17 (.ref (Δ.ba + 31)))) 16 18 (.ref (Δ.ba + 33))) 16 1 (-1)) 16 2 (-1))
theorem fr_Mch16 {Δ : Dx} {σ : St} (hF : ∀ a, 17 ≤ a → Fresh σ a) : ∀ a, 35 ≤ a → Fresh (s_Mch16 Δ σ) a := by
  have F0 := hF
  have F1 := fS F0
  have F2 := fR (b := 16) (j := 3) (v := .ref (Δ.ba + 17)) F1 (by decide)
  have F3 := fS F2
  have F4 := fR (b := 16) (j := 4) (v := .ref (Δ.ba + 18)) F3 (by decide)
  have F5 := fS F4
  have F6 := fR (b := 16) (j := 5) (v := .ref (Δ.ba + 19)) F5 (by decide)
  have F7 := fS F6
  have F8 := fR (b := 16) (j := 6) (v := .ref (Δ.ba + 20)) F7 (by decide)
  have F9 := fS F8
  have F10 := fR (b := 16) (j := 7) (v := .ref (Δ.ba + 21)) F9 (by decide)
  have F11 := fS F10
  have F12 := fR (b := 16) (j := 8) (v := .ref (Δ.ba + 22)) F11 (by decide)
  have F13 := fS F12
  have F14 := fR (b := 16) (j := 9) (v := .ref (Δ.ba + 23)) F13 (by decide)
  have F15 := fS F14
  have F16 := fR (b := 16) (j := 10) (v := .ref (Δ.ba + 24)) F15 (by decide)
  have F17 := fS F16
  have F18 := fR (b := 16) (j := 11) (v := .ref (Δ.ba + 25)) F17 (by decide)
  have F19 := fS F18
  have F20 := fR (b := 16) (j := 12) (v := .ref (Δ.ba + 26)) F19 (by decide)
  have F21 := fS F20
  have F22 := fR (b := 16) (j := 13) (v := .ref (Δ.ba + 27)) F21 (by decide)
  have F23 := fS F22
  have F24 := fR (b := 16) (j := 14) (v := .ref (Δ.ba + 28)) F23 (by decide)
  have F25 := fS F24
  have F26 := fR (b := 16) (j := 15) (v := .ref (Δ.ba + 29)) F25 (by decide)
  have F27 := fS F26
  have F28 := fR (b := 16) (j := 16) (v := .ref (Δ.ba + 30)) F27 (by decide)
  have F29 := fS F28
  have F30 := fS F29
  have F31 := fr_Rng31 (Δ := Δ) F30
  have F32 := fR (b := 16) (j := 17) (v := .ref (Δ.ba + 31)) F31 (by decide)
  have F33 := fS F32
  have F34 := fS F33
  have F35 := fr_Rng33 (Δ := Δ) F34
  have F36 := fR (b := 16) (j := 18) (v := .ref (Δ.ba + 33)) F35 (by decide)
  have F37 := fI (b := 16) (j := 1) (v := (-1)) F36 (by decide)
  have F38 := fI (b := 16) (j := 2) (v := (-1)) F37 (by decide)
  exact F38
set_option maxRecDepth 20000 in
set_option maxHeartbeats 4000000 in
theorem ec_Mch16 {Δ : Dx} {σ : St} (hF : ∀ a, 17 ≤ a → Fresh σ a) : EvC Δ 2 m_Mch_init 17 [.ref (Δ.ba + 16)] σ 35 (s_Mch16 Δ σ) 18 1028 := by
  refine evC_of (by decide) (Nat.le_of_ble_eq_true rfl) (fun Γ hk hR hT hz => ?_)
  unfold s_Mch16 at hT
  have F0 := hF
  refine g_aload_n (pc := 0) (dd d_Mch_init 0 rfl) rfl ?_
  refine g_objInit (pc := 1) (dd d_Mch_init 1 rfl) oi_Mch_3 oi_1 oi_2 (by rw [hk]; decide) (Nat.le_of_ble_eq_true rfl) ?_
  refine g_aload_n (pc := 4) (dd d_Mch_init 2 rfl) rfl ?_
  refine g_bipush (pc := 5) (v := 64) (dd d_Mch_init 3 rfl) (by decide) ?_
  refine g_newa (pc := 7) (N := 64) (t := 0) (dd d_Mch_init 4 rfl) rfl ac_int rfl rfl (by decide) (by decide) (by decide) (F0 _ (by decide)) (by omega) (by rw [hR]; decide) (by rw [hR]; decide) (Or.inl rfl) ?_
  have F1 := fS F0
  refine g_putR (pc := 9) (j := 3) (dd d_Mch_init 5 rfl) f_Mch_9 (Or.inr ⟨fi_Mch_3, rfl⟩) ⟨by decide, rfl⟩ rfl (fun _ => rfl) (fun _ => rfl) ?_
  have F2 := fR (b := 16) (j := 3) (v := .ref (Δ.ba + 17)) F1 (by decide)
  refine g_aload_n (pc := 12) (dd d_Mch_init 6 rfl) rfl ?_
  refine g_bipush (pc := 13) (v := 64) (dd d_Mch_init 7 rfl) (by decide) ?_
  refine g_newa (pc := 15) (N := 64) (t := 0) (dd d_Mch_init 8 rfl) rfl ac_int rfl rfl (by decide) (by decide) (by decide) (F2 _ (by decide)) (by omega) (by rw [hR]; decide) (by rw [hR]; decide) (Or.inl rfl) ?_
  have F3 := fS F2
  refine g_putR (pc := 17) (j := 4) (dd d_Mch_init 9 rfl) f_Mch_15 (Or.inr ⟨fi_Mch_4, rfl⟩) ⟨by decide, rfl⟩ rfl (fun _ => rfl) (fun _ => rfl) ?_
  have F4 := fR (b := 16) (j := 4) (v := .ref (Δ.ba + 18)) F3 (by decide)
  refine g_aload_n (pc := 20) (dd d_Mch_init 10 rfl) rfl ?_
  refine g_bipush (pc := 21) (v := 96) (dd d_Mch_init 11 rfl) (by decide) ?_
  refine g_newa (pc := 23) (N := 96) (t := 0) (dd d_Mch_init 12 rfl) rfl ac_int rfl rfl (by decide) (by decide) (by decide) (F4 _ (by decide)) (by omega) (by rw [hR]; decide) (by rw [hR]; decide) (Or.inl rfl) ?_
  have F5 := fS F4
  refine g_putR (pc := 25) (j := 5) (dd d_Mch_init 13 rfl) f_Mch_18 (Or.inr ⟨fi_Mch_5, rfl⟩) ⟨by decide, rfl⟩ rfl (fun _ => rfl) (fun _ => rfl) ?_
  have F6 := fR (b := 16) (j := 5) (v := .ref (Δ.ba + 19)) F5 (by decide)
  refine g_aload_n (pc := 28) (dd d_Mch_init 14 rfl) rfl ?_
  refine g_bipush (pc := 29) (v := 96) (dd d_Mch_init 15 rfl) (by decide) ?_
  refine g_newa (pc := 31) (N := 96) (t := 0) (dd d_Mch_init 16 rfl) rfl ac_int rfl rfl (by decide) (by decide) (by decide) (F6 _ (by decide)) (by omega) (by rw [hR]; decide) (by rw [hR]; decide) (Or.inl rfl) ?_
  have F7 := fS F6
  refine g_putR (pc := 33) (j := 6) (dd d_Mch_init 17 rfl) f_Mch_21 (Or.inr ⟨fi_Mch_6, rfl⟩) ⟨by decide, rfl⟩ rfl (fun _ => rfl) (fun _ => rfl) ?_
  have F8 := fR (b := 16) (j := 6) (v := .ref (Δ.ba + 20)) F7 (by decide)
  refine g_aload_n (pc := 36) (dd d_Mch_init 18 rfl) rfl ?_
  refine g_bipush (pc := 37) (v := 96) (dd d_Mch_init 19 rfl) (by decide) ?_
  refine g_newa (pc := 39) (N := 96) (t := 0) (dd d_Mch_init 20 rfl) rfl ac_int rfl rfl (by decide) (by decide) (by decide) (F8 _ (by decide)) (by omega) (by rw [hR]; decide) (by rw [hR]; decide) (Or.inl rfl) ?_
  have F9 := fS F8
  refine g_putR (pc := 41) (j := 7) (dd d_Mch_init 21 rfl) f_Mch_24 (Or.inr ⟨fi_Mch_7, rfl⟩) ⟨by decide, rfl⟩ rfl (fun _ => rfl) (fun _ => rfl) ?_
  have F10 := fR (b := 16) (j := 7) (v := .ref (Δ.ba + 21)) F9 (by decide)
  refine g_aload_n (pc := 44) (dd d_Mch_init 22 rfl) rfl ?_
  refine g_bipush (pc := 45) (v := 9) (dd d_Mch_init 23 rfl) (by decide) ?_
  refine g_newa (pc := 47) (N := 9) (t := 0) (dd d_Mch_init 24 rfl) rfl ac_int rfl rfl (by decide) (by decide) (by decide) (F10 _ (by decide)) (by omega) (by rw [hR]; decide) (by rw [hR]; decide) (Or.inl rfl) ?_
  have F11 := fS F10
  refine g_putR (pc := 49) (j := 8) (dd d_Mch_init 25 rfl) f_Mch_27 (Or.inr ⟨fi_Mch_8, rfl⟩) ⟨by decide, rfl⟩ rfl (fun _ => rfl) (fun _ => rfl) ?_
  have F12 := fR (b := 16) (j := 8) (v := .ref (Δ.ba + 22)) F11 (by decide)
  refine g_aload_n (pc := 52) (dd d_Mch_init 26 rfl) rfl ?_
  refine g_bipush (pc := 53) (v := 9) (dd d_Mch_init 27 rfl) (by decide) ?_
  refine g_newa (pc := 55) (N := 9) (t := 0) (dd d_Mch_init 28 rfl) rfl ac_int rfl rfl (by decide) (by decide) (by decide) (F12 _ (by decide)) (by omega) (by rw [hR]; decide) (by rw [hR]; decide) (Or.inl rfl) ?_
  have F13 := fS F12
  refine g_putR (pc := 57) (j := 9) (dd d_Mch_init 29 rfl) f_Mch_30 (Or.inr ⟨fi_Mch_9, rfl⟩) ⟨by decide, rfl⟩ rfl (fun _ => rfl) (fun _ => rfl) ?_
  have F14 := fR (b := 16) (j := 9) (v := .ref (Δ.ba + 23)) F13 (by decide)
  refine g_aload_n (pc := 60) (dd d_Mch_init 30 rfl) rfl ?_
  refine g_bipush (pc := 61) (v := 16) (dd d_Mch_init 31 rfl) (by decide) ?_
  refine g_newa (pc := 63) (N := 16) (t := 0) (dd d_Mch_init 32 rfl) rfl ac_int rfl rfl (by decide) (by decide) (by decide) (F14 _ (by decide)) (by omega) (by rw [hR]; decide) (by rw [hR]; decide) (Or.inl rfl) ?_
  have F15 := fS F14
  refine g_putR (pc := 65) (j := 10) (dd d_Mch_init 33 rfl) f_Mch_33 (Or.inr ⟨fi_Mch_10, rfl⟩) ⟨by decide, rfl⟩ rfl (fun _ => rfl) (fun _ => rfl) ?_
  have F16 := fR (b := 16) (j := 10) (v := .ref (Δ.ba + 24)) F15 (by decide)
  refine g_aload_n (pc := 68) (dd d_Mch_init 34 rfl) rfl ?_
  refine g_bipush (pc := 69) (v := 16) (dd d_Mch_init 35 rfl) (by decide) ?_
  refine g_newa (pc := 71) (N := 16) (t := 0) (dd d_Mch_init 36 rfl) rfl ac_int rfl rfl (by decide) (by decide) (by decide) (F16 _ (by decide)) (by omega) (by rw [hR]; decide) (by rw [hR]; decide) (Or.inl rfl) ?_
  have F17 := fS F16
  refine g_putR (pc := 73) (j := 11) (dd d_Mch_init 37 rfl) f_Mch_36 (Or.inr ⟨fi_Mch_11, rfl⟩) ⟨by decide, rfl⟩ rfl (fun _ => rfl) (fun _ => rfl) ?_
  have F18 := fR (b := 16) (j := 11) (v := .ref (Δ.ba + 25)) F17 (by decide)
  refine g_aload_n (pc := 76) (dd d_Mch_init 38 rfl) rfl ?_
  refine g_bipush (pc := 77) (v := 40) (dd d_Mch_init 39 rfl) (by decide) ?_
  refine g_newa (pc := 79) (N := 40) (t := 0) (dd d_Mch_init 40 rfl) rfl ac_int rfl rfl (by decide) (by decide) (by decide) (F18 _ (by decide)) (by omega) (by rw [hR]; decide) (by rw [hR]; decide) (Or.inl rfl) ?_
  have F19 := fS F18
  refine g_putR (pc := 81) (j := 12) (dd d_Mch_init 41 rfl) f_Mch_39 (Or.inr ⟨fi_Mch_12, rfl⟩) ⟨by decide, rfl⟩ rfl (fun _ => rfl) (fun _ => rfl) ?_
  have F20 := fR (b := 16) (j := 12) (v := .ref (Δ.ba + 26)) F19 (by decide)
  refine g_aload_n (pc := 84) (dd d_Mch_init 42 rfl) rfl ?_
  refine g_bipush (pc := 85) (v := 60) (dd d_Mch_init 43 rfl) (by decide) ?_
  refine g_newa (pc := 87) (N := 60) (t := 0) (dd d_Mch_init 44 rfl) rfl ac_int rfl rfl (by decide) (by decide) (by decide) (F20 _ (by decide)) (by omega) (by rw [hR]; decide) (by rw [hR]; decide) (Or.inl rfl) ?_
  have F21 := fS F20
  refine g_putR (pc := 89) (j := 13) (dd d_Mch_init 45 rfl) f_Mch_42 (Or.inr ⟨fi_Mch_13, rfl⟩) ⟨by decide, rfl⟩ rfl (fun _ => rfl) (fun _ => rfl) ?_
  have F22 := fR (b := 16) (j := 13) (v := .ref (Δ.ba + 27)) F21 (by decide)
  refine g_aload_n (pc := 92) (dd d_Mch_init 46 rfl) rfl ?_
  refine g_bipush (pc := 93) (v := 60) (dd d_Mch_init 47 rfl) (by decide) ?_
  refine g_newa (pc := 95) (N := 60) (t := 0) (dd d_Mch_init 48 rfl) rfl ac_int rfl rfl (by decide) (by decide) (by decide) (F22 _ (by decide)) (by omega) (by rw [hR]; decide) (by rw [hR]; decide) (Or.inl rfl) ?_
  have F23 := fS F22
  refine g_putR (pc := 97) (j := 14) (dd d_Mch_init 49 rfl) f_Mch_45 (Or.inr ⟨fi_Mch_14, rfl⟩) ⟨by decide, rfl⟩ rfl (fun _ => rfl) (fun _ => rfl) ?_
  have F24 := fR (b := 16) (j := 14) (v := .ref (Δ.ba + 28)) F23 (by decide)
  refine g_aload_n (pc := 100) (dd d_Mch_init 50 rfl) rfl ?_
  refine g_bipush (pc := 101) (v := 8) (dd d_Mch_init 51 rfl) (by decide) ?_
  refine g_newa (pc := 103) (N := 8) (t := 0) (dd d_Mch_init 52 rfl) rfl ac_int rfl rfl (by decide) (by decide) (by decide) (F24 _ (by decide)) (by omega) (by rw [hR]; decide) (by rw [hR]; decide) (Or.inl rfl) ?_
  have F25 := fS F24
  refine g_putR (pc := 105) (j := 15) (dd d_Mch_init 53 rfl) f_Mch_48 (Or.inr ⟨fi_Mch_15, rfl⟩) ⟨by decide, rfl⟩ rfl (fun _ => rfl) (fun _ => rfl) ?_
  have F26 := fR (b := 16) (j := 15) (v := .ref (Δ.ba + 29)) F25 (by decide)
  refine g_aload_n (pc := 108) (dd d_Mch_init 54 rfl) rfl ?_
  refine g_bipush (pc := 109) (v := 88) (dd d_Mch_init 55 rfl) (by decide) ?_
  refine g_newa (pc := 111) (N := 88) (t := 0) (dd d_Mch_init 56 rfl) rfl ac_int rfl rfl (by decide) (by decide) (by decide) (F26 _ (by decide)) (by omega) (by rw [hR]; decide) (by rw [hR]; decide) (Or.inl rfl) ?_
  have F27 := fS F26
  refine g_putR (pc := 113) (j := 16) (dd d_Mch_init 57 rfl) f_Mch_51 (Or.inr ⟨fi_Mch_16, rfl⟩) ⟨by decide, rfl⟩ rfl (fun _ => rfl) (fun _ => rfl) ?_
  have F28 := fR (b := 16) (j := 16) (v := .ref (Δ.ba + 30)) F27 (by decide)
  refine g_aload_n (pc := 116) (dd d_Mch_init 58 rfl) rfl ?_
  refine g_new (pc := 117) (dd d_Mch_init 59 rfl) nw_Mch_54 rfl (F28 _ (by decide)) (by omega) (by rw [hR]; decide) (by rw [hR]; decide) ?_
  have F29 := fS F28
  refine g_dup (pc := 120) (dd d_Mch_init_1 0 rfl) rfl ?_
  refine g_bipush (pc := 121) (v := 8) (dd d_Mch_init_1 1 rfl) (by decide) ?_
  refine g_bipush (pc := 123) (v := 25) (dd d_Mch_init_1 2 rfl) (by decide) ?_
  refine g_sipush (pc := 125) (v := 200) (dd d_Mch_init_1 3 rfl) (by decide) ?_
  refine g_newa (pc := 128) (N := 200) (t := 0) (dd d_Mch_init_1 4 rfl) rfl ac_int rfl rfl (by decide) (by decide) (by decide) (F29 _ (by decide)) (by omega) (by rw [hR]; decide) (by rw [hR]; decide) (Or.inl rfl) ?_
  have F30 := fS F29
  refine g_callI (pc := 130) (dd d_Mch_init_1 5 rfl) ci_Mch_56 (ec_Rng31 F30) rfl (by rw [hk]; decide) (Nat.le_of_ble_eq_true rfl) (by rw [hR]; exact ⟨by decide, by decide⟩) rfl (by omega) ?_
  have F31 := fr_Rng31 (Δ := Δ) F30
  refine g_putR (pc := 133) (j := 17) (dd d_Mch_init_1 6 rfl) f_Mch_59 (Or.inr ⟨fi_Mch_17, rfl⟩) ⟨by decide, rfl⟩ rfl (fun _ => rfl) (fun _ => rfl) ?_
  have F32 := fR (b := 16) (j := 17) (v := .ref (Δ.ba + 31)) F31 (by decide)
  refine g_aload_n (pc := 136) (dd d_Mch_init_1 7 rfl) rfl ?_
  refine g_new (pc := 137) (dd d_Mch_init_1 8 rfl) nw_Mch_54 rfl (F32 _ (by decide)) (by omega) (by rw [hR]; decide) (by rw [hR]; decide) ?_
  have F33 := fS F32
  refine g_dup (pc := 140) (dd d_Mch_init_1 9 rfl) rfl ?_
  refine g_bipush (pc := 141) (v := 16) (dd d_Mch_init_1 10 rfl) (by decide) ?_
  refine g_bipush (pc := 143) (v := 6) (dd d_Mch_init_1 11 rfl) (by decide) ?_
  refine g_bipush (pc := 145) (v := 96) (dd d_Mch_init_1 12 rfl) (by decide) ?_
  refine g_newa (pc := 147) (N := 96) (t := 0) (dd d_Mch_init_1 13 rfl) rfl ac_int rfl rfl (by decide) (by decide) (by decide) (F33 _ (by decide)) (by omega) (by rw [hR]; decide) (by rw [hR]; decide) (Or.inl rfl) ?_
  have F34 := fS F33
  refine g_callI (pc := 149) (dd d_Mch_init_1 14 rfl) ci_Mch_56 (ec_Rng33 F34) rfl (by rw [hk]; decide) (Nat.le_of_ble_eq_true rfl) (by rw [hR]; exact ⟨by decide, by decide⟩) rfl (by omega) ?_
  have F35 := fr_Rng33 (Δ := Δ) F34
  refine g_putR (pc := 152) (j := 18) (dd d_Mch_init_1 15 rfl) f_Mch_63 (Or.inr ⟨fi_Mch_18, rfl⟩) ⟨by decide, rfl⟩ rfl (fun _ => rfl) (fun _ => rfl) ?_
  have F36 := fR (b := 16) (j := 18) (v := .ref (Δ.ba + 33)) F35 (by decide)
  refine g_aload_n (pc := 155) (dd d_Mch_init_1 16 rfl) rfl ?_
  refine g_iconst (pc := 156) (v := (-1)) (dd d_Mch_init_1 17 rfl) (by decide) ?_
  refine g_putI (pc := 157) (j := 1) (dd d_Mch_init_1 18 rfl) f_Mch_66 (Or.inl fm_Mch_1) ⟨by decide, rfl⟩ rfl ?_
  have F37 := fI (b := 16) (j := 1) (v := (-1)) F36 (by decide)
  refine g_aload_n (pc := 160) (dd d_Mch_init_1 19 rfl) rfl ?_
  refine g_iconst (pc := 161) (v := (-1)) (dd d_Mch_init_1 20 rfl) (by decide) ?_
  refine g_putI (pc := 162) (j := 2) (dd d_Mch_init_1 21 rfl) f_Mch_70 (Or.inl fm_Mch_2) ⟨by decide, rfl⟩ rfl ?_
  have F38 := fI (b := 16) (j := 2) (v := (-1)) F37 (by decide)
  exact g_vret (pc := 165) rfl (dd d_Mch_init_1 22 rfl) hT
def s_Img15 (Δ : Dx) (σ : St) : St := (stR (s_Mch16 Δ (stR σ 15 0 (.ref (Δ.ba + 1)))) 15 1 (.ref (Δ.ba + 16)))
theorem fr_Img15 {Δ : Dx} {σ : St} (hF : ∀ a, 16 ≤ a → Fresh σ a) : ∀ a, 35 ≤ a → Fresh (s_Img15 Δ σ) a := by
  have F0 := hF
  have F1 := fR (b := 15) (j := 0) (v := .ref (Δ.ba + 1)) F0 (by decide)
  have F2 := fS F1
  have F3 := fr_Mch16 (Δ := Δ) F2
  have F4 := fR (b := 15) (j := 1) (v := .ref (Δ.ba + 16)) F3 (by decide)
  exact F4
set_option maxRecDepth 20000 in
set_option maxHeartbeats 4000000 in
theorem ec_Img15 {Δ : Dx} {σ : St} (hF : ∀ a, 16 ≤ a → Fresh σ a) : EvC Δ 3 m_Img_init 16 [.ref (Δ.ba + 15), .ref (Δ.ba + 1)] σ 35 (s_Img15 Δ σ) 19 1047 := by
  refine evC_of (by decide) (Nat.le_of_ble_eq_true rfl) (fun Γ hk hR hT hz => ?_)
  unfold s_Img15 at hT
  have F0 := hF
  refine g_aload_n (pc := 0) (dd d_Img_init 0 rfl) rfl ?_
  refine g_objInit (pc := 1) (dd d_Img_init 1 rfl) oi_Img_3 oi_1 oi_2 (by rw [hk]; decide) (Nat.le_of_ble_eq_true rfl) ?_
  refine g_aload_n (pc := 4) (dd d_Img_init 2 rfl) rfl ?_
  refine g_aload_n (pc := 5) (dd d_Img_init 3 rfl) rfl ?_
  refine g_putR (pc := 6) (j := 0) (dd d_Img_init 4 rfl) f_Img_9 (Or.inr ⟨fi_Img_0, rfl⟩) ⟨by decide, rfl⟩ rfl (fun _ => rfl) (fun _ => rfl) ?_
  have F1 := fR (b := 15) (j := 0) (v := .ref (Δ.ba + 1)) F0 (by decide)
  refine g_aload_n (pc := 9) (dd d_Img_init 5 rfl) rfl ?_
  refine g_new (pc := 10) (dd d_Img_init 6 rfl) nw_Img_15 rfl (F1 _ (by decide)) (by omega) (by rw [hR]; decide) (by rw [hR]; decide) ?_
  have F2 := fS F1
  refine g_dup (pc := 13) (dd d_Img_init 7 rfl) rfl ?_
  refine g_callI (pc := 14) (dd d_Img_init 8 rfl) ci_Img_17 (ec_Mch16 F2) rfl (by rw [hk]; decide) (Nat.le_of_ble_eq_true rfl) (by rw [hR]; exact ⟨by decide, by decide⟩) rfl (by omega) ?_
  have F3 := fr_Mch16 (Δ := Δ) F2
  refine g_putR (pc := 17) (j := 1) (dd d_Img_init 9 rfl) f_Img_18 (Or.inl fm_Img_1) ⟨by decide, rfl⟩ rfl (fun _ => rfl) (fun _ => rfl) ?_
  have F4 := fR (b := 15) (j := 1) (v := .ref (Δ.ba + 16)) F3 (by decide)
  exact g_vret (pc := 20) rfl (dd d_Img_init 10 rfl) hT
def s_Wrk36 (Δ : Dx) (σ : St) : St := (stR (stR σ 36 0 (.ref (Δ.ba + 37))) 36 1 (.ref (Δ.ba + 38)))
theorem fr_Wrk36 {Δ : Dx} {σ : St} (hF : ∀ a, 37 ≤ a → Fresh σ a) : ∀ a, 39 ≤ a → Fresh (s_Wrk36 Δ σ) a := by
  have F0 := hF
  have F1 := fS F0
  have F2 := fR (b := 36) (j := 0) (v := .ref (Δ.ba + 37)) F1 (by decide)
  have F3 := fS F2
  have F4 := fR (b := 36) (j := 1) (v := .ref (Δ.ba + 38)) F3 (by decide)
  exact F4
set_option maxRecDepth 20000 in
set_option maxHeartbeats 4000000 in
theorem ec_Wrk36 {Δ : Dx} {σ : St} (hF : ∀ a, 37 ≤ a → Fresh σ a) : EvC Δ 1 m_Wrk_init 37 [.ref (Δ.ba + 36)] σ 39 (s_Wrk36 Δ σ) 2 89 := by
  refine evC_of (by decide) (Nat.le_of_ble_eq_true rfl) (fun Γ hk hR hT hz => ?_)
  unfold s_Wrk36 at hT
  have F0 := hF
  refine g_aload_n (pc := 0) (dd d_Wrk_init 0 rfl) rfl ?_
  refine g_objInit (pc := 1) (dd d_Wrk_init 1 rfl) oi_Wrk_3 oi_1 oi_2 (by rw [hk]; decide) (Nat.le_of_ble_eq_true rfl) ?_
  refine g_aload_n (pc := 4) (dd d_Wrk_init 2 rfl) rfl ?_
  refine g_bipush (pc := 5) (v := 25) (dd d_Wrk_init 3 rfl) (by decide) ?_
  refine g_newa (pc := 7) (N := 25) (t := 0) (dd d_Wrk_init 4 rfl) rfl ac_int rfl rfl (by decide) (by decide) (by decide) (F0 _ (by decide)) (by omega) (by rw [hR]; decide) (by rw [hR]; decide) (Or.inl rfl) ?_
  have F1 := fS F0
  refine g_putR (pc := 9) (j := 0) (dd d_Wrk_init 5 rfl) f_Wrk_9 (Or.inr ⟨fi_Wrk_0, rfl⟩) ⟨by decide, rfl⟩ rfl (fun _ => rfl) (fun _ => rfl) ?_
  have F2 := fR (b := 36) (j := 0) (v := .ref (Δ.ba + 37)) F1 (by decide)
  refine g_aload_n (pc := 12) (dd d_Wrk_init 6 rfl) rfl ?_
  refine g_bipush (pc := 13) (v := 64) (dd d_Wrk_init 7 rfl) (by decide) ?_
  refine g_newa (pc := 15) (N := 64) (t := 0) (dd d_Wrk_init 8 rfl) rfl ac_int rfl rfl (by decide) (by decide) (by decide) (F2 _ (by decide)) (by omega) (by rw [hR]; decide) (by rw [hR]; decide) (Or.inl rfl) ?_
  have F3 := fS F2
  refine g_putR (pc := 17) (j := 1) (dd d_Wrk_init 9 rfl) f_Wrk_15 (Or.inr ⟨fi_Wrk_1, rfl⟩) ⟨by decide, rfl⟩ rfl (fun _ => rfl) (fun _ => rfl) ?_
  have F4 := fR (b := 36) (j := 1) (v := .ref (Δ.ba + 38)) F3 (by decide)
  exact g_vret (pc := 20) rfl (dd d_Wrk_init 10 rfl) hT
def s_Stp35 (Δ : Dx) (σ : St) : St := (stR (stR (s_Wrk36 Δ σ) 35 0 (.ref (Δ.ba + 36))) 35 1 (.ref (Δ.ba + 39)))
theorem fr_Stp35 {Δ : Dx} {σ : St} (hF : ∀ a, 36 ≤ a → Fresh σ a) : ∀ a, 40 ≤ a → Fresh (s_Stp35 Δ σ) a := by
  have F0 := hF
  have F1 := fS F0
  have F2 := fr_Wrk36 (Δ := Δ) F1
  have F3 := fR (b := 35) (j := 0) (v := .ref (Δ.ba + 36)) F2 (by decide)
  have F4 := fS F3
  have F5 := fR (b := 35) (j := 1) (v := .ref (Δ.ba + 39)) F4 (by decide)
  exact F5
set_option maxRecDepth 20000 in
set_option maxHeartbeats 4000000 in
theorem ec_Stp35 {Δ : Dx} {σ : St} (hF : ∀ a, 36 ≤ a → Fresh σ a) : EvC Δ 2 m_Stp_init 36 [.ref (Δ.ba + 35)] σ 40 (s_Stp35 Δ σ) 4 98 := by
  refine evC_of (by decide) (Nat.le_of_ble_eq_true rfl) (fun Γ hk hR hT hz => ?_)
  unfold s_Stp35 at hT
  have F0 := hF
  refine g_aload_n (pc := 0) (dd d_Stp_init 0 rfl) rfl ?_
  refine g_objInit (pc := 1) (dd d_Stp_init 1 rfl) oi_Stp_3 oi_1 oi_2 (by rw [hk]; decide) (Nat.le_of_ble_eq_true rfl) ?_
  refine g_aload_n (pc := 4) (dd d_Stp_init 2 rfl) rfl ?_
  refine g_new (pc := 5) (dd d_Stp_init 3 rfl) nw_Stp_9 rfl (F0 _ (by decide)) (by omega) (by rw [hR]; decide) (by rw [hR]; decide) ?_
  have F1 := fS F0
  refine g_dup (pc := 8) (dd d_Stp_init 4 rfl) rfl ?_
  refine g_callIN (pc := 9) (dd d_Stp_init 5 rfl) ci_Stp_11 (ec_Wrk36 F1) rfl (by rw [hk]; decide) (Nat.le_of_ble_eq_true rfl) (by rw [hR]; exact ⟨by decide, by decide⟩) rfl (by omega) ?_
  have F2 := fr_Wrk36 (Δ := Δ) F1
  refine g_putR (pc := 12) (j := 0) (dd d_Stp_init 6 rfl) f_Stp_12 (Or.inr ⟨fi_Stp_0, rfl⟩) ⟨by decide, rfl⟩ rfl (fun _ => rfl) (fun _ => rfl) ?_
  have F3 := fR (b := 35) (j := 0) (v := .ref (Δ.ba + 36)) F2 (by decide)
  refine g_aload_n (pc := 15) (dd d_Stp_init 7 rfl) rfl ?_
  refine g_bipush (pc := 16) (v := 6) (dd d_Stp_init 8 rfl) (by decide) ?_
  refine g_newa (pc := 18) (N := 6) (t := 0) (dd d_Stp_init 9 rfl) rfl ac_int rfl rfl (by decide) (by decide) (by decide) (F3 _ (by decide)) (by omega) (by rw [hR]; decide) (by rw [hR]; decide) (Or.inl rfl) ?_
  have F4 := fS F3
  refine g_putR (pc := 20) (j := 1) (dd d_Stp_init 10 rfl) f_Stp_18 (Or.inr ⟨fi_Stp_1, rfl⟩) ⟨by decide, rfl⟩ rfl (fun _ => rfl) (fun _ => rfl) ?_
  have F5 := fR (b := 35) (j := 1) (v := .ref (Δ.ba + 39)) F4 (by decide)
  exact g_vret (pc := 23) rfl (dd d_Stp_init 11 rfl) hT
def s_Wrk42 (Δ : Dx) (σ : St) : St := (stR (stR σ 42 0 (.ref (Δ.ba + 43))) 42 1 (.ref (Δ.ba + 44)))
theorem fr_Wrk42 {Δ : Dx} {σ : St} (hF : ∀ a, 43 ≤ a → Fresh σ a) : ∀ a, 45 ≤ a → Fresh (s_Wrk42 Δ σ) a := by
  have F0 := hF
  have F1 := fS F0
  have F2 := fR (b := 42) (j := 0) (v := .ref (Δ.ba + 43)) F1 (by decide)
  have F3 := fS F2
  have F4 := fR (b := 42) (j := 1) (v := .ref (Δ.ba + 44)) F3 (by decide)
  exact F4
set_option maxRecDepth 20000 in
set_option maxHeartbeats 4000000 in
theorem ec_Wrk42 {Δ : Dx} {σ : St} (hF : ∀ a, 43 ≤ a → Fresh σ a) : EvC Δ 1 m_Wrk_init 43 [.ref (Δ.ba + 42)] σ 45 (s_Wrk42 Δ σ) 2 89 := by
  refine evC_of (by decide) (Nat.le_of_ble_eq_true rfl) (fun Γ hk hR hT hz => ?_)
  unfold s_Wrk42 at hT
  have F0 := hF
  refine g_aload_n (pc := 0) (dd d_Wrk_init 0 rfl) rfl ?_
  refine g_objInit (pc := 1) (dd d_Wrk_init 1 rfl) oi_Wrk_3 oi_1 oi_2 (by rw [hk]; decide) (Nat.le_of_ble_eq_true rfl) ?_
  refine g_aload_n (pc := 4) (dd d_Wrk_init 2 rfl) rfl ?_
  refine g_bipush (pc := 5) (v := 25) (dd d_Wrk_init 3 rfl) (by decide) ?_
  refine g_newa (pc := 7) (N := 25) (t := 0) (dd d_Wrk_init 4 rfl) rfl ac_int rfl rfl (by decide) (by decide) (by decide) (F0 _ (by decide)) (by omega) (by rw [hR]; decide) (by rw [hR]; decide) (Or.inl rfl) ?_
  have F1 := fS F0
  refine g_putR (pc := 9) (j := 0) (dd d_Wrk_init 5 rfl) f_Wrk_9 (Or.inr ⟨fi_Wrk_0, rfl⟩) ⟨by decide, rfl⟩ rfl (fun _ => rfl) (fun _ => rfl) ?_
  have F2 := fR (b := 42) (j := 0) (v := .ref (Δ.ba + 43)) F1 (by decide)
  refine g_aload_n (pc := 12) (dd d_Wrk_init 6 rfl) rfl ?_
  refine g_bipush (pc := 13) (v := 64) (dd d_Wrk_init 7 rfl) (by decide) ?_
  refine g_newa (pc := 15) (N := 64) (t := 0) (dd d_Wrk_init 8 rfl) rfl ac_int rfl rfl (by decide) (by decide) (by decide) (F2 _ (by decide)) (by omega) (by rw [hR]; decide) (by rw [hR]; decide) (Or.inl rfl) ?_
  have F3 := fS F2
  refine g_putR (pc := 17) (j := 1) (dd d_Wrk_init 9 rfl) f_Wrk_15 (Or.inr ⟨fi_Wrk_1, rfl⟩) ⟨by decide, rfl⟩ rfl (fun _ => rfl) (fun _ => rfl) ?_
  have F4 := fR (b := 42) (j := 1) (v := .ref (Δ.ba + 44)) F3 (by decide)
  exact g_vret (pc := 20) rfl (dd d_Wrk_init 10 rfl) hT
def s_Wrk45 (Δ : Dx) (σ : St) : St := (stR (stR σ 45 0 (.ref (Δ.ba + 46))) 45 1 (.ref (Δ.ba + 47)))
theorem fr_Wrk45 {Δ : Dx} {σ : St} (hF : ∀ a, 46 ≤ a → Fresh σ a) : ∀ a, 48 ≤ a → Fresh (s_Wrk45 Δ σ) a := by
  have F0 := hF
  have F1 := fS F0
  have F2 := fR (b := 45) (j := 0) (v := .ref (Δ.ba + 46)) F1 (by decide)
  have F3 := fS F2
  have F4 := fR (b := 45) (j := 1) (v := .ref (Δ.ba + 47)) F3 (by decide)
  exact F4
set_option maxRecDepth 20000 in
set_option maxHeartbeats 4000000 in
theorem ec_Wrk45 {Δ : Dx} {σ : St} (hF : ∀ a, 46 ≤ a → Fresh σ a) : EvC Δ 1 m_Wrk_init 46 [.ref (Δ.ba + 45)] σ 48 (s_Wrk45 Δ σ) 2 89 := by
  refine evC_of (by decide) (Nat.le_of_ble_eq_true rfl) (fun Γ hk hR hT hz => ?_)
  unfold s_Wrk45 at hT
  have F0 := hF
  refine g_aload_n (pc := 0) (dd d_Wrk_init 0 rfl) rfl ?_
  refine g_objInit (pc := 1) (dd d_Wrk_init 1 rfl) oi_Wrk_3 oi_1 oi_2 (by rw [hk]; decide) (Nat.le_of_ble_eq_true rfl) ?_
  refine g_aload_n (pc := 4) (dd d_Wrk_init 2 rfl) rfl ?_
  refine g_bipush (pc := 5) (v := 25) (dd d_Wrk_init 3 rfl) (by decide) ?_
  refine g_newa (pc := 7) (N := 25) (t := 0) (dd d_Wrk_init 4 rfl) rfl ac_int rfl rfl (by decide) (by decide) (by decide) (F0 _ (by decide)) (by omega) (by rw [hR]; decide) (by rw [hR]; decide) (Or.inl rfl) ?_
  have F1 := fS F0
  refine g_putR (pc := 9) (j := 0) (dd d_Wrk_init 5 rfl) f_Wrk_9 (Or.inr ⟨fi_Wrk_0, rfl⟩) ⟨by decide, rfl⟩ rfl (fun _ => rfl) (fun _ => rfl) ?_
  have F2 := fR (b := 45) (j := 0) (v := .ref (Δ.ba + 46)) F1 (by decide)
  refine g_aload_n (pc := 12) (dd d_Wrk_init 6 rfl) rfl ?_
  refine g_bipush (pc := 13) (v := 64) (dd d_Wrk_init 7 rfl) (by decide) ?_
  refine g_newa (pc := 15) (N := 64) (t := 0) (dd d_Wrk_init 8 rfl) rfl ac_int rfl rfl (by decide) (by decide) (by decide) (F2 _ (by decide)) (by omega) (by rw [hR]; decide) (by rw [hR]; decide) (Or.inl rfl) ?_
  have F3 := fS F2
  refine g_putR (pc := 17) (j := 1) (dd d_Wrk_init 9 rfl) f_Wrk_15 (Or.inr ⟨fi_Wrk_1, rfl⟩) ⟨by decide, rfl⟩ rfl (fun _ => rfl) (fun _ => rfl) ?_
  have F4 := fR (b := 45) (j := 1) (v := .ref (Δ.ba + 47)) F3 (by decide)
  exact g_vret (pc := 20) rfl (dd d_Wrk_init 10 rfl) hT
def s_Cmp40 (Δ : Dx) (σ : St) : St := (stR (s_Wrk45 Δ (stR (s_Wrk42 Δ (stR σ 40 1 (.ref (Δ.ba + 41)))) 40 2 (.ref (Δ.ba + 42)))) 40 3 (.ref (Δ.ba + 45)))
theorem fr_Cmp40 {Δ : Dx} {σ : St} (hF : ∀ a, 41 ≤ a → Fresh σ a) : ∀ a, 48 ≤ a → Fresh (s_Cmp40 Δ σ) a := by
  have F0 := hF
  have F1 := fS F0
  have F2 := fR (b := 40) (j := 1) (v := .ref (Δ.ba + 41)) F1 (by decide)
  have F3 := fS F2
  have F4 := fr_Wrk42 (Δ := Δ) F3
  have F5 := fR (b := 40) (j := 2) (v := .ref (Δ.ba + 42)) F4 (by decide)
  have F6 := fS F5
  have F7 := fr_Wrk45 (Δ := Δ) F6
  have F8 := fR (b := 40) (j := 3) (v := .ref (Δ.ba + 45)) F7 (by decide)
  exact F8
set_option maxRecDepth 20000 in
set_option maxHeartbeats 4000000 in
theorem ec_Cmp40 {Δ : Dx} {σ : St} (hF : ∀ a, 41 ≤ a → Fresh σ a) : EvC Δ 2 m_Cmp_init 41 [.ref (Δ.ba + 40)] σ 48 (s_Cmp40 Δ σ) 7 199 := by
  refine evC_of (by decide) (Nat.le_of_ble_eq_true rfl) (fun Γ hk hR hT hz => ?_)
  unfold s_Cmp40 at hT
  have F0 := hF
  refine g_aload_n (pc := 0) (dd d_Cmp_init 0 rfl) rfl ?_
  refine g_objInit (pc := 1) (dd d_Cmp_init 1 rfl) oi_Cmp_3 oi_1 oi_2 (by rw [hk]; decide) (Nat.le_of_ble_eq_true rfl) ?_
  refine g_aload_n (pc := 4) (dd d_Cmp_init 2 rfl) rfl ?_
  refine g_bipush (pc := 5) (v := 15) (dd d_Cmp_init 3 rfl) (by decide) ?_
  refine g_newa (pc := 7) (N := 15) (t := 0) (dd d_Cmp_init 4 rfl) rfl ac_int rfl rfl (by decide) (by decide) (by decide) (F0 _ (by decide)) (by omega) (by rw [hR]; decide) (by rw [hR]; decide) (Or.inl rfl) ?_
  have F1 := fS F0
  refine g_putR (pc := 9) (j := 1) (dd d_Cmp_init 5 rfl) f_Cmp_9 (Or.inr ⟨fi_Cmp_1, rfl⟩) ⟨by decide, rfl⟩ rfl (fun _ => rfl) (fun _ => rfl) ?_
  have F2 := fR (b := 40) (j := 1) (v := .ref (Δ.ba + 41)) F1 (by decide)
  refine g_aload_n (pc := 12) (dd d_Cmp_init 6 rfl) rfl ?_
  refine g_new (pc := 13) (dd d_Cmp_init 7 rfl) nw_Cmp_15 rfl (F2 _ (by decide)) (by omega) (by rw [hR]; decide) (by rw [hR]; decide) ?_
  have F3 := fS F2
  refine g_dup (pc := 16) (dd d_Cmp_init 8 rfl) rfl ?_
  refine g_callIN (pc := 17) (dd d_Cmp_init 9 rfl) ci_Cmp_17 (ec_Wrk42 F3) rfl (by rw [hk]; decide) (Nat.le_of_ble_eq_true rfl) (by rw [hR]; exact ⟨by decide, by decide⟩) rfl (by omega) ?_
  have F4 := fr_Wrk42 (Δ := Δ) F3
  refine g_putR (pc := 20) (j := 2) (dd d_Cmp_init 10 rfl) f_Cmp_18 (Or.inr ⟨fi_Cmp_2, rfl⟩) ⟨by decide, rfl⟩ rfl (fun _ => rfl) (fun _ => rfl) ?_
  have F5 := fR (b := 40) (j := 2) (v := .ref (Δ.ba + 42)) F4 (by decide)
  refine g_aload_n (pc := 23) (dd d_Cmp_init 11 rfl) rfl ?_
  refine g_new (pc := 24) (dd d_Cmp_init 12 rfl) nw_Cmp_15 rfl (F5 _ (by decide)) (by omega) (by rw [hR]; decide) (by rw [hR]; decide) ?_
  have F6 := fS F5
  refine g_dup (pc := 27) (dd d_Cmp_init 13 rfl) rfl ?_
  refine g_callIN (pc := 28) (dd d_Cmp_init 14 rfl) ci_Cmp_17 (ec_Wrk45 F6) rfl (by rw [hk]; decide) (Nat.le_of_ble_eq_true rfl) (by rw [hR]; exact ⟨by decide, by decide⟩) rfl (by omega) ?_
  have F7 := fr_Wrk45 (Δ := Δ) F6
  refine g_putR (pc := 31) (j := 3) (dd d_Cmp_init 15 rfl) f_Cmp_22 (Or.inr ⟨fi_Cmp_3, rfl⟩) ⟨by decide, rfl⟩ rfl (fun _ => rfl) (fun _ => rfl) ?_
  have F8 := fR (b := 40) (j := 3) (v := .ref (Δ.ba + 45)) F7 (by decide)
  exact g_vret (pc := 34) rfl (dd d_Cmp_init 16 rfl) hT
def s_Pol48 (Δ : Dx) (σ : St) : St := (fillI (stR (stR (stR (stR (stR (stR σ 48 1 (.ref (Δ.ba + 49))) 48 2 (.ref (Δ.ba + 50))) 48 3 (.ref (Δ.ba + 51))) 48 4 (.ref (Δ.ba + 52))) 48 5 (.ref (Δ.ba + 53))) 48 6 (.ref (Δ.ba + 54))) 53 22 (-1))
theorem fr_Pol48 {Δ : Dx} {σ : St} (hF : ∀ a, 49 ≤ a → Fresh σ a) : ∀ a, 55 ≤ a → Fresh (s_Pol48 Δ σ) a := by
  have F0 := hF
  have F1 := fS F0
  have F2 := fR (b := 48) (j := 1) (v := .ref (Δ.ba + 49)) F1 (by decide)
  have F3 := fS F2
  have F4 := fR (b := 48) (j := 2) (v := .ref (Δ.ba + 50)) F3 (by decide)
  have F5 := fS F4
  have F6 := fR (b := 48) (j := 3) (v := .ref (Δ.ba + 51)) F5 (by decide)
  have F7 := fS F6
  have F8 := fR (b := 48) (j := 4) (v := .ref (Δ.ba + 52)) F7 (by decide)
  have F9 := fS F8
  have F10 := fR (b := 48) (j := 5) (v := .ref (Δ.ba + 53)) F9 (by decide)
  have F11 := fS F10
  have F12 := fR (b := 48) (j := 6) (v := .ref (Δ.ba + 54)) F11 (by decide)
  have F13 := fFill (b := 53) (N := 22) (v := (-1)) F12 (by decide)
  exact F13
set_option maxRecDepth 20000 in
set_option maxHeartbeats 4000000 in
theorem ec_Pol48 {Δ : Dx} {σ : St} (hF : ∀ a, 49 ≤ a → Fresh σ a) : EvC Δ 1 m_Pol_init 49 [.ref (Δ.ba + 48)] σ 55 (s_Pol48 Δ σ) 6 1888 := by
  refine evC_of (by decide) (Nat.le_of_ble_eq_true rfl) (fun Γ hk hR hT hz => ?_)
  unfold s_Pol48 at hT
  have F0 := hF
  refine g_aload_n (pc := 0) (dd d_Pol_init 0 rfl) rfl ?_
  refine g_objInit (pc := 1) (dd d_Pol_init 1 rfl) oi_Pol_3 oi_1 oi_2 (by rw [hk]; decide) (Nat.le_of_ble_eq_true rfl) ?_
  refine g_aload_n (pc := 4) (dd d_Pol_init 2 rfl) rfl ?_
  refine g_sipush (pc := 5) (v := 900) (dd d_Pol_init 3 rfl) (by decide) ?_
  refine g_newa (pc := 8) (N := 900) (t := 0) (dd d_Pol_init 4 rfl) rfl ac_int rfl rfl (by decide) (by decide) (by decide) (F0 _ (by decide)) (by omega) (by rw [hR]; decide) (by rw [hR]; decide) (Or.inl rfl) ?_
  have F1 := fS F0
  refine g_putR (pc := 10) (j := 1) (dd d_Pol_init 5 rfl) f_Pol_9 (Or.inr ⟨fi_Pol_1, rfl⟩) ⟨by decide, rfl⟩ rfl (fun _ => rfl) (fun _ => rfl) ?_
  have F2 := fR (b := 48) (j := 1) (v := .ref (Δ.ba + 49)) F1 (by decide)
  refine g_aload_n (pc := 13) (dd d_Pol_init 6 rfl) rfl ?_
  refine g_sipush (pc := 14) (v := 900) (dd d_Pol_init 7 rfl) (by decide) ?_
  refine g_newa (pc := 17) (N := 900) (t := 0) (dd d_Pol_init 8 rfl) rfl ac_int rfl rfl (by decide) (by decide) (by decide) (F2 _ (by decide)) (by omega) (by rw [hR]; decide) (by rw [hR]; decide) (Or.inl rfl) ?_
  have F3 := fS F2
  refine g_putR (pc := 19) (j := 2) (dd d_Pol_init 9 rfl) f_Pol_15 (Or.inr ⟨fi_Pol_2, rfl⟩) ⟨by decide, rfl⟩ rfl (fun _ => rfl) (fun _ => rfl) ?_
  have F4 := fR (b := 48) (j := 2) (v := .ref (Δ.ba + 50)) F3 (by decide)
  refine g_aload_n (pc := 22) (dd d_Pol_init 10 rfl) rfl ?_
  refine g_bipush (pc := 23) (v := 22) (dd d_Pol_init 11 rfl) (by decide) ?_
  refine g_newa (pc := 25) (N := 22) (t := 0) (dd d_Pol_init 12 rfl) rfl ac_int rfl rfl (by decide) (by decide) (by decide) (F4 _ (by decide)) (by omega) (by rw [hR]; decide) (by rw [hR]; decide) (Or.inl rfl) ?_
  have F5 := fS F4
  refine g_putR (pc := 27) (j := 3) (dd d_Pol_init 13 rfl) f_Pol_18 (Or.inr ⟨fi_Pol_3, rfl⟩) ⟨by decide, rfl⟩ rfl (fun _ => rfl) (fun _ => rfl) ?_
  have F6 := fR (b := 48) (j := 3) (v := .ref (Δ.ba + 51)) F5 (by decide)
  refine g_aload_n (pc := 30) (dd d_Pol_init 14 rfl) rfl ?_
  refine g_bipush (pc := 31) (v := 22) (dd d_Pol_init 15 rfl) (by decide) ?_
  refine g_newa (pc := 33) (N := 22) (t := 0) (dd d_Pol_init 16 rfl) rfl ac_int rfl rfl (by decide) (by decide) (by decide) (F6 _ (by decide)) (by omega) (by rw [hR]; decide) (by rw [hR]; decide) (Or.inl rfl) ?_
  have F7 := fS F6
  refine g_putR (pc := 35) (j := 4) (dd d_Pol_init 17 rfl) f_Pol_21 (Or.inr ⟨fi_Pol_4, rfl⟩) ⟨by decide, rfl⟩ rfl (fun _ => rfl) (fun _ => rfl) ?_
  have F8 := fR (b := 48) (j := 4) (v := .ref (Δ.ba + 52)) F7 (by decide)
  refine g_aload_n (pc := 38) (dd d_Pol_init 18 rfl) rfl ?_
  refine g_bipush (pc := 39) (v := 22) (dd d_Pol_init 19 rfl) (by decide) ?_
  refine g_newa (pc := 41) (N := 22) (t := 0) (dd d_Pol_init 20 rfl) rfl ac_int rfl rfl (by decide) (by decide) (by decide) (F8 _ (by decide)) (by omega) (by rw [hR]; decide) (by rw [hR]; decide) (Or.inl rfl) ?_
  have F9 := fS F8
  refine g_putR (pc := 43) (j := 5) (dd d_Pol_init 21 rfl) f_Pol_24 (Or.inr ⟨fi_Pol_5, rfl⟩) ⟨by decide, rfl⟩ rfl (fun _ => rfl) (fun _ => rfl) ?_
  have F10 := fR (b := 48) (j := 5) (v := .ref (Δ.ba + 53)) F9 (by decide)
  refine g_aload_n (pc := 46) (dd d_Pol_init 22 rfl) rfl ?_
  refine g_bipush (pc := 47) (v := 22) (dd d_Pol_init 23 rfl) (by decide) ?_
  refine g_newa (pc := 49) (N := 22) (t := 0) (dd d_Pol_init 24 rfl) rfl ac_int rfl rfl (by decide) (by decide) (by decide) (F10 _ (by decide)) (by omega) (by rw [hR]; decide) (by rw [hR]; decide) (Or.inl rfl) ?_
  have F11 := fS F10
  refine g_putR (pc := 51) (j := 6) (dd d_Pol_init 25 rfl) f_Pol_27 (Or.inr ⟨fi_Pol_6, rfl⟩) ⟨by decide, rfl⟩ rfl (fun _ => rfl) (fun _ => rfl) ?_
  have F12 := fR (b := 48) (j := 6) (v := .ref (Δ.ba + 54)) F11 (by decide)
  refine g_aload_n (pc := 54) (dd d_Pol_init 26 rfl) rfl ?_
  refine g_getr (pc := 55) (v := .ref (Δ.ba + 53)) (dd d_Pol_init 27 rfl) f_Pol_24 ⟨by decide, rfl⟩ rfl (by rfl) ?_
  refine g_iconst (pc := 58) (v := (-1)) (dd d_Pol_init 28 rfl) (by decide) ?_
  refine g_callS (pc := 59) (dd d_Pol_init 29 rfl) s_Pol_30 (ev_fill (N := 22) (-1) ⟨by decide, rfl⟩ (by decide)) rfl (by rw [hk]; decide) (Nat.le_of_ble_eq_true rfl) (by rw [hR]; exact ⟨by decide, by decide⟩) rfl ?_
  have F13 := fFill (b := 53) (N := 22) (v := (-1)) F12 (by decide)
  exact g_vret (pc := 62) rfl (dd d_Pol_init 30 rfl) hT
def s_Pol57 (Δ : Dx) (σ : St) : St := (fillI (stR (stR (stR (stR (stR (stR σ 57 1 (.ref (Δ.ba + 58))) 57 2 (.ref (Δ.ba + 59))) 57 3 (.ref (Δ.ba + 60))) 57 4 (.ref (Δ.ba + 61))) 57 5 (.ref (Δ.ba + 62))) 57 6 (.ref (Δ.ba + 63))) 62 22 (-1))
theorem fr_Pol57 {Δ : Dx} {σ : St} (hF : ∀ a, 58 ≤ a → Fresh σ a) : ∀ a, 64 ≤ a → Fresh (s_Pol57 Δ σ) a := by
  have F0 := hF
  have F1 := fS F0
  have F2 := fR (b := 57) (j := 1) (v := .ref (Δ.ba + 58)) F1 (by decide)
  have F3 := fS F2
  have F4 := fR (b := 57) (j := 2) (v := .ref (Δ.ba + 59)) F3 (by decide)
  have F5 := fS F4
  have F6 := fR (b := 57) (j := 3) (v := .ref (Δ.ba + 60)) F5 (by decide)
  have F7 := fS F6
  have F8 := fR (b := 57) (j := 4) (v := .ref (Δ.ba + 61)) F7 (by decide)
  have F9 := fS F8
  have F10 := fR (b := 57) (j := 5) (v := .ref (Δ.ba + 62)) F9 (by decide)
  have F11 := fS F10
  have F12 := fR (b := 57) (j := 6) (v := .ref (Δ.ba + 63)) F11 (by decide)
  have F13 := fFill (b := 62) (N := 22) (v := (-1)) F12 (by decide)
  exact F13
set_option maxRecDepth 20000 in
set_option maxHeartbeats 4000000 in
theorem ec_Pol57 {Δ : Dx} {σ : St} (hF : ∀ a, 58 ≤ a → Fresh σ a) : EvC Δ 1 m_Pol_init 58 [.ref (Δ.ba + 57)] σ 64 (s_Pol57 Δ σ) 6 1888 := by
  refine evC_of (by decide) (Nat.le_of_ble_eq_true rfl) (fun Γ hk hR hT hz => ?_)
  unfold s_Pol57 at hT
  have F0 := hF
  refine g_aload_n (pc := 0) (dd d_Pol_init 0 rfl) rfl ?_
  refine g_objInit (pc := 1) (dd d_Pol_init 1 rfl) oi_Pol_3 oi_1 oi_2 (by rw [hk]; decide) (Nat.le_of_ble_eq_true rfl) ?_
  refine g_aload_n (pc := 4) (dd d_Pol_init 2 rfl) rfl ?_
  refine g_sipush (pc := 5) (v := 900) (dd d_Pol_init 3 rfl) (by decide) ?_
  refine g_newa (pc := 8) (N := 900) (t := 0) (dd d_Pol_init 4 rfl) rfl ac_int rfl rfl (by decide) (by decide) (by decide) (F0 _ (by decide)) (by omega) (by rw [hR]; decide) (by rw [hR]; decide) (Or.inl rfl) ?_
  have F1 := fS F0
  refine g_putR (pc := 10) (j := 1) (dd d_Pol_init 5 rfl) f_Pol_9 (Or.inr ⟨fi_Pol_1, rfl⟩) ⟨by decide, rfl⟩ rfl (fun _ => rfl) (fun _ => rfl) ?_
  have F2 := fR (b := 57) (j := 1) (v := .ref (Δ.ba + 58)) F1 (by decide)
  refine g_aload_n (pc := 13) (dd d_Pol_init 6 rfl) rfl ?_
  refine g_sipush (pc := 14) (v := 900) (dd d_Pol_init 7 rfl) (by decide) ?_
  refine g_newa (pc := 17) (N := 900) (t := 0) (dd d_Pol_init 8 rfl) rfl ac_int rfl rfl (by decide) (by decide) (by decide) (F2 _ (by decide)) (by omega) (by rw [hR]; decide) (by rw [hR]; decide) (Or.inl rfl) ?_
  have F3 := fS F2
  refine g_putR (pc := 19) (j := 2) (dd d_Pol_init 9 rfl) f_Pol_15 (Or.inr ⟨fi_Pol_2, rfl⟩) ⟨by decide, rfl⟩ rfl (fun _ => rfl) (fun _ => rfl) ?_
  have F4 := fR (b := 57) (j := 2) (v := .ref (Δ.ba + 59)) F3 (by decide)
  refine g_aload_n (pc := 22) (dd d_Pol_init 10 rfl) rfl ?_
  refine g_bipush (pc := 23) (v := 22) (dd d_Pol_init 11 rfl) (by decide) ?_
  refine g_newa (pc := 25) (N := 22) (t := 0) (dd d_Pol_init 12 rfl) rfl ac_int rfl rfl (by decide) (by decide) (by decide) (F4 _ (by decide)) (by omega) (by rw [hR]; decide) (by rw [hR]; decide) (Or.inl rfl) ?_
  have F5 := fS F4
  refine g_putR (pc := 27) (j := 3) (dd d_Pol_init 13 rfl) f_Pol_18 (Or.inr ⟨fi_Pol_3, rfl⟩) ⟨by decide, rfl⟩ rfl (fun _ => rfl) (fun _ => rfl) ?_
  have F6 := fR (b := 57) (j := 3) (v := .ref (Δ.ba + 60)) F5 (by decide)
  refine g_aload_n (pc := 30) (dd d_Pol_init 14 rfl) rfl ?_
  refine g_bipush (pc := 31) (v := 22) (dd d_Pol_init 15 rfl) (by decide) ?_
  refine g_newa (pc := 33) (N := 22) (t := 0) (dd d_Pol_init 16 rfl) rfl ac_int rfl rfl (by decide) (by decide) (by decide) (F6 _ (by decide)) (by omega) (by rw [hR]; decide) (by rw [hR]; decide) (Or.inl rfl) ?_
  have F7 := fS F6
  refine g_putR (pc := 35) (j := 4) (dd d_Pol_init 17 rfl) f_Pol_21 (Or.inr ⟨fi_Pol_4, rfl⟩) ⟨by decide, rfl⟩ rfl (fun _ => rfl) (fun _ => rfl) ?_
  have F8 := fR (b := 57) (j := 4) (v := .ref (Δ.ba + 61)) F7 (by decide)
  refine g_aload_n (pc := 38) (dd d_Pol_init 18 rfl) rfl ?_
  refine g_bipush (pc := 39) (v := 22) (dd d_Pol_init 19 rfl) (by decide) ?_
  refine g_newa (pc := 41) (N := 22) (t := 0) (dd d_Pol_init 20 rfl) rfl ac_int rfl rfl (by decide) (by decide) (by decide) (F8 _ (by decide)) (by omega) (by rw [hR]; decide) (by rw [hR]; decide) (Or.inl rfl) ?_
  have F9 := fS F8
  refine g_putR (pc := 43) (j := 5) (dd d_Pol_init 21 rfl) f_Pol_24 (Or.inr ⟨fi_Pol_5, rfl⟩) ⟨by decide, rfl⟩ rfl (fun _ => rfl) (fun _ => rfl) ?_
  have F10 := fR (b := 57) (j := 5) (v := .ref (Δ.ba + 62)) F9 (by decide)
  refine g_aload_n (pc := 46) (dd d_Pol_init 22 rfl) rfl ?_
  refine g_bipush (pc := 47) (v := 22) (dd d_Pol_init 23 rfl) (by decide) ?_
  refine g_newa (pc := 49) (N := 22) (t := 0) (dd d_Pol_init 24 rfl) rfl ac_int rfl rfl (by decide) (by decide) (by decide) (F10 _ (by decide)) (by omega) (by rw [hR]; decide) (by rw [hR]; decide) (Or.inl rfl) ?_
  have F11 := fS F10
  refine g_putR (pc := 51) (j := 6) (dd d_Pol_init 25 rfl) f_Pol_27 (Or.inr ⟨fi_Pol_6, rfl⟩) ⟨by decide, rfl⟩ rfl (fun _ => rfl) (fun _ => rfl) ?_
  have F12 := fR (b := 57) (j := 6) (v := .ref (Δ.ba + 63)) F11 (by decide)
  refine g_aload_n (pc := 54) (dd d_Pol_init 26 rfl) rfl ?_
  refine g_getr (pc := 55) (v := .ref (Δ.ba + 62)) (dd d_Pol_init 27 rfl) f_Pol_24 ⟨by decide, rfl⟩ rfl (by rfl) ?_
  refine g_iconst (pc := 58) (v := (-1)) (dd d_Pol_init 28 rfl) (by decide) ?_
  refine g_callS (pc := 59) (dd d_Pol_init 29 rfl) s_Pol_30 (ev_fill (N := 22) (-1) ⟨by decide, rfl⟩ (by decide)) rfl (by rw [hk]; decide) (Nat.le_of_ble_eq_true rfl) (by rw [hR]; exact ⟨by decide, by decide⟩) rfl ?_
  have F13 := fFill (b := 62) (N := 22) (v := (-1)) F12 (by decide)
  exact g_vret (pc := 62) rfl (dd d_Pol_init 30 rfl) hT
def s_Rng79 (Δ : Dx) (σ : St) : St := (stR (stI (stI σ 79 2 8) 79 3 25) 79 4 (.ref (Δ.ba + 80)))
theorem fr_Rng79 {Δ : Dx} {σ : St} (hF : ∀ a, 81 ≤ a → Fresh σ a) : ∀ a, 81 ≤ a → Fresh (s_Rng79 Δ σ) a := by
  have F0 := hF
  have F1 := fI (b := 79) (j := 2) (v := 8) F0 (by decide)
  have F2 := fI (b := 79) (j := 3) (v := 25) F1 (by decide)
  have F3 := fR (b := 79) (j := 4) (v := .ref (Δ.ba + 80)) F2 (by decide)
  exact F3
set_option maxRecDepth 20000 in
set_option maxHeartbeats 4000000 in
theorem ec_Rng79 {Δ : Dx} {σ : St} (hF : ∀ a, 81 ≤ a → Fresh σ a) : EvC Δ 1 m_Rng_init 81 [.ref (Δ.ba + 79), .int 8, .int 25, .ref (Δ.ba + 80)] σ 81 (s_Rng79 Δ σ) 0 0 := by
  refine evC_of (by decide) (Nat.le_of_ble_eq_true rfl) (fun Γ hk hR hT hz => ?_)
  unfold s_Rng79 at hT
  have F0 := hF
  refine g_aload_n (pc := 0) (dd d_Rng_init 0 rfl) rfl ?_
  refine g_objInit (pc := 1) (dd d_Rng_init 1 rfl) oi_Rng_3 oi_1 oi_2 (by rw [hk]; decide) (Nat.le_of_ble_eq_true rfl) ?_
  refine g_aload_n (pc := 4) (dd d_Rng_init 2 rfl) rfl ?_
  refine g_iload_n (pc := 5) (dd d_Rng_init 3 rfl) rfl ?_
  refine g_putI (pc := 6) (j := 2) (dd d_Rng_init 4 rfl) f_Rng_9 (Or.inr ⟨fi_Rng_2, rfl⟩) ⟨by decide, rfl⟩ rfl ?_
  have F1 := fI (b := 79) (j := 2) (v := 8) F0 (by decide)
  refine g_aload_n (pc := 9) (dd d_Rng_init 5 rfl) rfl ?_
  refine g_iload_n (pc := 10) (dd d_Rng_init 6 rfl) rfl ?_
  refine g_putI (pc := 11) (j := 3) (dd d_Rng_init 7 rfl) f_Rng_15 (Or.inr ⟨fi_Rng_3, rfl⟩) ⟨by decide, rfl⟩ rfl ?_
  have F2 := fI (b := 79) (j := 3) (v := 25) F1 (by decide)
  refine g_aload_n (pc := 14) (dd d_Rng_init 8 rfl) rfl ?_
  refine g_aload_n (pc := 15) (dd d_Rng_init 9 rfl) rfl ?_
  refine g_putR (pc := 16) (j := 4) (dd d_Rng_init 10 rfl) f_Rng_18 (Or.inr ⟨fi_Rng_4, rfl⟩) ⟨by decide, rfl⟩ rfl (fun _ => rfl) (fun _ => rfl) ?_
  have F3 := fR (b := 79) (j := 4) (v := .ref (Δ.ba + 80)) F2 (by decide)
  exact g_vret (pc := 19) rfl (dd d_Rng_init 11 rfl) hT
def s_Rng81 (Δ : Dx) (σ : St) : St := (stR (stI (stI σ 81 2 16) 81 3 6) 81 4 (.ref (Δ.ba + 82)))
theorem fr_Rng81 {Δ : Dx} {σ : St} (hF : ∀ a, 83 ≤ a → Fresh σ a) : ∀ a, 83 ≤ a → Fresh (s_Rng81 Δ σ) a := by
  have F0 := hF
  have F1 := fI (b := 81) (j := 2) (v := 16) F0 (by decide)
  have F2 := fI (b := 81) (j := 3) (v := 6) F1 (by decide)
  have F3 := fR (b := 81) (j := 4) (v := .ref (Δ.ba + 82)) F2 (by decide)
  exact F3
set_option maxRecDepth 20000 in
set_option maxHeartbeats 4000000 in
theorem ec_Rng81 {Δ : Dx} {σ : St} (hF : ∀ a, 83 ≤ a → Fresh σ a) : EvC Δ 1 m_Rng_init 83 [.ref (Δ.ba + 81), .int 16, .int 6, .ref (Δ.ba + 82)] σ 83 (s_Rng81 Δ σ) 0 0 := by
  refine evC_of (by decide) (Nat.le_of_ble_eq_true rfl) (fun Γ hk hR hT hz => ?_)
  unfold s_Rng81 at hT
  have F0 := hF
  refine g_aload_n (pc := 0) (dd d_Rng_init 0 rfl) rfl ?_
  refine g_objInit (pc := 1) (dd d_Rng_init 1 rfl) oi_Rng_3 oi_1 oi_2 (by rw [hk]; decide) (Nat.le_of_ble_eq_true rfl) ?_
  refine g_aload_n (pc := 4) (dd d_Rng_init 2 rfl) rfl ?_
  refine g_iload_n (pc := 5) (dd d_Rng_init 3 rfl) rfl ?_
  refine g_putI (pc := 6) (j := 2) (dd d_Rng_init 4 rfl) f_Rng_9 (Or.inr ⟨fi_Rng_2, rfl⟩) ⟨by decide, rfl⟩ rfl ?_
  have F1 := fI (b := 81) (j := 2) (v := 16) F0 (by decide)
  refine g_aload_n (pc := 9) (dd d_Rng_init 5 rfl) rfl ?_
  refine g_iload_n (pc := 10) (dd d_Rng_init 6 rfl) rfl ?_
  refine g_putI (pc := 11) (j := 3) (dd d_Rng_init 7 rfl) f_Rng_15 (Or.inr ⟨fi_Rng_3, rfl⟩) ⟨by decide, rfl⟩ rfl ?_
  have F2 := fI (b := 81) (j := 3) (v := 6) F1 (by decide)
  refine g_aload_n (pc := 14) (dd d_Rng_init 8 rfl) rfl ?_
  refine g_aload_n (pc := 15) (dd d_Rng_init 9 rfl) rfl ?_
  refine g_putR (pc := 16) (j := 4) (dd d_Rng_init 10 rfl) f_Rng_18 (Or.inr ⟨fi_Rng_4, rfl⟩) ⟨by decide, rfl⟩ rfl (fun _ => rfl) (fun _ => rfl) ?_
  have F3 := fR (b := 81) (j := 4) (v := .ref (Δ.ba + 82)) F2 (by decide)
  exact g_vret (pc := 19) rfl (dd d_Rng_init 11 rfl) hT
def s_Mch64 (Δ : Dx) (σ : St) : St := (stI (stI (stR (s_Rng81 Δ (stR (s_Rng79 Δ (stR (stR (stR (stR (stR (stR (stR (stR (stR (stR (stR (stR (stR (stR σ 64 3 (.ref (Δ.ba + 65))) 64 4 (.ref (Δ.ba + 66))) 64 5 (.ref (Δ.ba + 67))) 64 6 (.ref (Δ.ba + 68))) 64 7 (.ref (Δ.ba + 69))) 64 8 (.ref (Δ.ba + 70))) 64 9 (.ref (Δ.ba + 71))) 64 10 (.ref (Δ.ba + 72))) 64 11 (.ref (Δ.ba + 73))) 64 12 (.ref (Δ.ba + 74))) 64 13 (.ref (Δ.ba + 75))) 64 14 (.ref (Δ.ba + 76))) 64 15 (.ref (Δ.ba + 77))) 64 16 (.ref (Δ.ba + 78)))) 64 17 (.ref (Δ.ba + 79)))) 64 18 (.ref (Δ.ba + 81))) 64 1 (-1)) 64 2 (-1))
theorem fr_Mch64 {Δ : Dx} {σ : St} (hF : ∀ a, 65 ≤ a → Fresh σ a) : ∀ a, 83 ≤ a → Fresh (s_Mch64 Δ σ) a := by
  have F0 := hF
  have F1 := fS F0
  have F2 := fR (b := 64) (j := 3) (v := .ref (Δ.ba + 65)) F1 (by decide)
  have F3 := fS F2
  have F4 := fR (b := 64) (j := 4) (v := .ref (Δ.ba + 66)) F3 (by decide)
  have F5 := fS F4
  have F6 := fR (b := 64) (j := 5) (v := .ref (Δ.ba + 67)) F5 (by decide)
  have F7 := fS F6
  have F8 := fR (b := 64) (j := 6) (v := .ref (Δ.ba + 68)) F7 (by decide)
  have F9 := fS F8
  have F10 := fR (b := 64) (j := 7) (v := .ref (Δ.ba + 69)) F9 (by decide)
  have F11 := fS F10
  have F12 := fR (b := 64) (j := 8) (v := .ref (Δ.ba + 70)) F11 (by decide)
  have F13 := fS F12
  have F14 := fR (b := 64) (j := 9) (v := .ref (Δ.ba + 71)) F13 (by decide)
  have F15 := fS F14
  have F16 := fR (b := 64) (j := 10) (v := .ref (Δ.ba + 72)) F15 (by decide)
  have F17 := fS F16
  have F18 := fR (b := 64) (j := 11) (v := .ref (Δ.ba + 73)) F17 (by decide)
  have F19 := fS F18
  have F20 := fR (b := 64) (j := 12) (v := .ref (Δ.ba + 74)) F19 (by decide)
  have F21 := fS F20
  have F22 := fR (b := 64) (j := 13) (v := .ref (Δ.ba + 75)) F21 (by decide)
  have F23 := fS F22
  have F24 := fR (b := 64) (j := 14) (v := .ref (Δ.ba + 76)) F23 (by decide)
  have F25 := fS F24
  have F26 := fR (b := 64) (j := 15) (v := .ref (Δ.ba + 77)) F25 (by decide)
  have F27 := fS F26
  have F28 := fR (b := 64) (j := 16) (v := .ref (Δ.ba + 78)) F27 (by decide)
  have F29 := fS F28
  have F30 := fS F29
  have F31 := fr_Rng79 (Δ := Δ) F30
  have F32 := fR (b := 64) (j := 17) (v := .ref (Δ.ba + 79)) F31 (by decide)
  have F33 := fS F32
  have F34 := fS F33
  have F35 := fr_Rng81 (Δ := Δ) F34
  have F36 := fR (b := 64) (j := 18) (v := .ref (Δ.ba + 81)) F35 (by decide)
  have F37 := fI (b := 64) (j := 1) (v := (-1)) F36 (by decide)
  have F38 := fI (b := 64) (j := 2) (v := (-1)) F37 (by decide)
  exact F38
set_option maxRecDepth 20000 in
set_option maxHeartbeats 4000000 in
theorem ec_Mch64 {Δ : Dx} {σ : St} (hF : ∀ a, 65 ≤ a → Fresh σ a) : EvC Δ 2 m_Mch_init 65 [.ref (Δ.ba + 64)] σ 83 (s_Mch64 Δ σ) 18 1028 := by
  refine evC_of (by decide) (Nat.le_of_ble_eq_true rfl) (fun Γ hk hR hT hz => ?_)
  unfold s_Mch64 at hT
  have F0 := hF
  refine g_aload_n (pc := 0) (dd d_Mch_init 0 rfl) rfl ?_
  refine g_objInit (pc := 1) (dd d_Mch_init 1 rfl) oi_Mch_3 oi_1 oi_2 (by rw [hk]; decide) (Nat.le_of_ble_eq_true rfl) ?_
  refine g_aload_n (pc := 4) (dd d_Mch_init 2 rfl) rfl ?_
  refine g_bipush (pc := 5) (v := 64) (dd d_Mch_init 3 rfl) (by decide) ?_
  refine g_newa (pc := 7) (N := 64) (t := 0) (dd d_Mch_init 4 rfl) rfl ac_int rfl rfl (by decide) (by decide) (by decide) (F0 _ (by decide)) (by omega) (by rw [hR]; decide) (by rw [hR]; decide) (Or.inl rfl) ?_
  have F1 := fS F0
  refine g_putR (pc := 9) (j := 3) (dd d_Mch_init 5 rfl) f_Mch_9 (Or.inr ⟨fi_Mch_3, rfl⟩) ⟨by decide, rfl⟩ rfl (fun _ => rfl) (fun _ => rfl) ?_
  have F2 := fR (b := 64) (j := 3) (v := .ref (Δ.ba + 65)) F1 (by decide)
  refine g_aload_n (pc := 12) (dd d_Mch_init 6 rfl) rfl ?_
  refine g_bipush (pc := 13) (v := 64) (dd d_Mch_init 7 rfl) (by decide) ?_
  refine g_newa (pc := 15) (N := 64) (t := 0) (dd d_Mch_init 8 rfl) rfl ac_int rfl rfl (by decide) (by decide) (by decide) (F2 _ (by decide)) (by omega) (by rw [hR]; decide) (by rw [hR]; decide) (Or.inl rfl) ?_
  have F3 := fS F2
  refine g_putR (pc := 17) (j := 4) (dd d_Mch_init 9 rfl) f_Mch_15 (Or.inr ⟨fi_Mch_4, rfl⟩) ⟨by decide, rfl⟩ rfl (fun _ => rfl) (fun _ => rfl) ?_
  have F4 := fR (b := 64) (j := 4) (v := .ref (Δ.ba + 66)) F3 (by decide)
  refine g_aload_n (pc := 20) (dd d_Mch_init 10 rfl) rfl ?_
  refine g_bipush (pc := 21) (v := 96) (dd d_Mch_init 11 rfl) (by decide) ?_
  refine g_newa (pc := 23) (N := 96) (t := 0) (dd d_Mch_init 12 rfl) rfl ac_int rfl rfl (by decide) (by decide) (by decide) (F4 _ (by decide)) (by omega) (by rw [hR]; decide) (by rw [hR]; decide) (Or.inl rfl) ?_
  have F5 := fS F4
  refine g_putR (pc := 25) (j := 5) (dd d_Mch_init 13 rfl) f_Mch_18 (Or.inr ⟨fi_Mch_5, rfl⟩) ⟨by decide, rfl⟩ rfl (fun _ => rfl) (fun _ => rfl) ?_
  have F6 := fR (b := 64) (j := 5) (v := .ref (Δ.ba + 67)) F5 (by decide)
  refine g_aload_n (pc := 28) (dd d_Mch_init 14 rfl) rfl ?_
  refine g_bipush (pc := 29) (v := 96) (dd d_Mch_init 15 rfl) (by decide) ?_
  refine g_newa (pc := 31) (N := 96) (t := 0) (dd d_Mch_init 16 rfl) rfl ac_int rfl rfl (by decide) (by decide) (by decide) (F6 _ (by decide)) (by omega) (by rw [hR]; decide) (by rw [hR]; decide) (Or.inl rfl) ?_
  have F7 := fS F6
  refine g_putR (pc := 33) (j := 6) (dd d_Mch_init 17 rfl) f_Mch_21 (Or.inr ⟨fi_Mch_6, rfl⟩) ⟨by decide, rfl⟩ rfl (fun _ => rfl) (fun _ => rfl) ?_
  have F8 := fR (b := 64) (j := 6) (v := .ref (Δ.ba + 68)) F7 (by decide)
  refine g_aload_n (pc := 36) (dd d_Mch_init 18 rfl) rfl ?_
  refine g_bipush (pc := 37) (v := 96) (dd d_Mch_init 19 rfl) (by decide) ?_
  refine g_newa (pc := 39) (N := 96) (t := 0) (dd d_Mch_init 20 rfl) rfl ac_int rfl rfl (by decide) (by decide) (by decide) (F8 _ (by decide)) (by omega) (by rw [hR]; decide) (by rw [hR]; decide) (Or.inl rfl) ?_
  have F9 := fS F8
  refine g_putR (pc := 41) (j := 7) (dd d_Mch_init 21 rfl) f_Mch_24 (Or.inr ⟨fi_Mch_7, rfl⟩) ⟨by decide, rfl⟩ rfl (fun _ => rfl) (fun _ => rfl) ?_
  have F10 := fR (b := 64) (j := 7) (v := .ref (Δ.ba + 69)) F9 (by decide)
  refine g_aload_n (pc := 44) (dd d_Mch_init 22 rfl) rfl ?_
  refine g_bipush (pc := 45) (v := 9) (dd d_Mch_init 23 rfl) (by decide) ?_
  refine g_newa (pc := 47) (N := 9) (t := 0) (dd d_Mch_init 24 rfl) rfl ac_int rfl rfl (by decide) (by decide) (by decide) (F10 _ (by decide)) (by omega) (by rw [hR]; decide) (by rw [hR]; decide) (Or.inl rfl) ?_
  have F11 := fS F10
  refine g_putR (pc := 49) (j := 8) (dd d_Mch_init 25 rfl) f_Mch_27 (Or.inr ⟨fi_Mch_8, rfl⟩) ⟨by decide, rfl⟩ rfl (fun _ => rfl) (fun _ => rfl) ?_
  have F12 := fR (b := 64) (j := 8) (v := .ref (Δ.ba + 70)) F11 (by decide)
  refine g_aload_n (pc := 52) (dd d_Mch_init 26 rfl) rfl ?_
  refine g_bipush (pc := 53) (v := 9) (dd d_Mch_init 27 rfl) (by decide) ?_
  refine g_newa (pc := 55) (N := 9) (t := 0) (dd d_Mch_init 28 rfl) rfl ac_int rfl rfl (by decide) (by decide) (by decide) (F12 _ (by decide)) (by omega) (by rw [hR]; decide) (by rw [hR]; decide) (Or.inl rfl) ?_
  have F13 := fS F12
  refine g_putR (pc := 57) (j := 9) (dd d_Mch_init 29 rfl) f_Mch_30 (Or.inr ⟨fi_Mch_9, rfl⟩) ⟨by decide, rfl⟩ rfl (fun _ => rfl) (fun _ => rfl) ?_
  have F14 := fR (b := 64) (j := 9) (v := .ref (Δ.ba + 71)) F13 (by decide)
  refine g_aload_n (pc := 60) (dd d_Mch_init 30 rfl) rfl ?_
  refine g_bipush (pc := 61) (v := 16) (dd d_Mch_init 31 rfl) (by decide) ?_
  refine g_newa (pc := 63) (N := 16) (t := 0) (dd d_Mch_init 32 rfl) rfl ac_int rfl rfl (by decide) (by decide) (by decide) (F14 _ (by decide)) (by omega) (by rw [hR]; decide) (by rw [hR]; decide) (Or.inl rfl) ?_
  have F15 := fS F14
  refine g_putR (pc := 65) (j := 10) (dd d_Mch_init 33 rfl) f_Mch_33 (Or.inr ⟨fi_Mch_10, rfl⟩) ⟨by decide, rfl⟩ rfl (fun _ => rfl) (fun _ => rfl) ?_
  have F16 := fR (b := 64) (j := 10) (v := .ref (Δ.ba + 72)) F15 (by decide)
  refine g_aload_n (pc := 68) (dd d_Mch_init 34 rfl) rfl ?_
  refine g_bipush (pc := 69) (v := 16) (dd d_Mch_init 35 rfl) (by decide) ?_
  refine g_newa (pc := 71) (N := 16) (t := 0) (dd d_Mch_init 36 rfl) rfl ac_int rfl rfl (by decide) (by decide) (by decide) (F16 _ (by decide)) (by omega) (by rw [hR]; decide) (by rw [hR]; decide) (Or.inl rfl) ?_
  have F17 := fS F16
  refine g_putR (pc := 73) (j := 11) (dd d_Mch_init 37 rfl) f_Mch_36 (Or.inr ⟨fi_Mch_11, rfl⟩) ⟨by decide, rfl⟩ rfl (fun _ => rfl) (fun _ => rfl) ?_
  have F18 := fR (b := 64) (j := 11) (v := .ref (Δ.ba + 73)) F17 (by decide)
  refine g_aload_n (pc := 76) (dd d_Mch_init 38 rfl) rfl ?_
  refine g_bipush (pc := 77) (v := 40) (dd d_Mch_init 39 rfl) (by decide) ?_
  refine g_newa (pc := 79) (N := 40) (t := 0) (dd d_Mch_init 40 rfl) rfl ac_int rfl rfl (by decide) (by decide) (by decide) (F18 _ (by decide)) (by omega) (by rw [hR]; decide) (by rw [hR]; decide) (Or.inl rfl) ?_
  have F19 := fS F18
  refine g_putR (pc := 81) (j := 12) (dd d_Mch_init 41 rfl) f_Mch_39 (Or.inr ⟨fi_Mch_12, rfl⟩) ⟨by decide, rfl⟩ rfl (fun _ => rfl) (fun _ => rfl) ?_
  have F20 := fR (b := 64) (j := 12) (v := .ref (Δ.ba + 74)) F19 (by decide)
  refine g_aload_n (pc := 84) (dd d_Mch_init 42 rfl) rfl ?_
  refine g_bipush (pc := 85) (v := 60) (dd d_Mch_init 43 rfl) (by decide) ?_
  refine g_newa (pc := 87) (N := 60) (t := 0) (dd d_Mch_init 44 rfl) rfl ac_int rfl rfl (by decide) (by decide) (by decide) (F20 _ (by decide)) (by omega) (by rw [hR]; decide) (by rw [hR]; decide) (Or.inl rfl) ?_
  have F21 := fS F20
  refine g_putR (pc := 89) (j := 13) (dd d_Mch_init 45 rfl) f_Mch_42 (Or.inr ⟨fi_Mch_13, rfl⟩) ⟨by decide, rfl⟩ rfl (fun _ => rfl) (fun _ => rfl) ?_
  have F22 := fR (b := 64) (j := 13) (v := .ref (Δ.ba + 75)) F21 (by decide)
  refine g_aload_n (pc := 92) (dd d_Mch_init 46 rfl) rfl ?_
  refine g_bipush (pc := 93) (v := 60) (dd d_Mch_init 47 rfl) (by decide) ?_
  refine g_newa (pc := 95) (N := 60) (t := 0) (dd d_Mch_init 48 rfl) rfl ac_int rfl rfl (by decide) (by decide) (by decide) (F22 _ (by decide)) (by omega) (by rw [hR]; decide) (by rw [hR]; decide) (Or.inl rfl) ?_
  have F23 := fS F22
  refine g_putR (pc := 97) (j := 14) (dd d_Mch_init 49 rfl) f_Mch_45 (Or.inr ⟨fi_Mch_14, rfl⟩) ⟨by decide, rfl⟩ rfl (fun _ => rfl) (fun _ => rfl) ?_
  have F24 := fR (b := 64) (j := 14) (v := .ref (Δ.ba + 76)) F23 (by decide)
  refine g_aload_n (pc := 100) (dd d_Mch_init 50 rfl) rfl ?_
  refine g_bipush (pc := 101) (v := 8) (dd d_Mch_init 51 rfl) (by decide) ?_
  refine g_newa (pc := 103) (N := 8) (t := 0) (dd d_Mch_init 52 rfl) rfl ac_int rfl rfl (by decide) (by decide) (by decide) (F24 _ (by decide)) (by omega) (by rw [hR]; decide) (by rw [hR]; decide) (Or.inl rfl) ?_
  have F25 := fS F24
  refine g_putR (pc := 105) (j := 15) (dd d_Mch_init 53 rfl) f_Mch_48 (Or.inr ⟨fi_Mch_15, rfl⟩) ⟨by decide, rfl⟩ rfl (fun _ => rfl) (fun _ => rfl) ?_
  have F26 := fR (b := 64) (j := 15) (v := .ref (Δ.ba + 77)) F25 (by decide)
  refine g_aload_n (pc := 108) (dd d_Mch_init 54 rfl) rfl ?_
  refine g_bipush (pc := 109) (v := 88) (dd d_Mch_init 55 rfl) (by decide) ?_
  refine g_newa (pc := 111) (N := 88) (t := 0) (dd d_Mch_init 56 rfl) rfl ac_int rfl rfl (by decide) (by decide) (by decide) (F26 _ (by decide)) (by omega) (by rw [hR]; decide) (by rw [hR]; decide) (Or.inl rfl) ?_
  have F27 := fS F26
  refine g_putR (pc := 113) (j := 16) (dd d_Mch_init 57 rfl) f_Mch_51 (Or.inr ⟨fi_Mch_16, rfl⟩) ⟨by decide, rfl⟩ rfl (fun _ => rfl) (fun _ => rfl) ?_
  have F28 := fR (b := 64) (j := 16) (v := .ref (Δ.ba + 78)) F27 (by decide)
  refine g_aload_n (pc := 116) (dd d_Mch_init 58 rfl) rfl ?_
  refine g_new (pc := 117) (dd d_Mch_init 59 rfl) nw_Mch_54 rfl (F28 _ (by decide)) (by omega) (by rw [hR]; decide) (by rw [hR]; decide) ?_
  have F29 := fS F28
  refine g_dup (pc := 120) (dd d_Mch_init_1 0 rfl) rfl ?_
  refine g_bipush (pc := 121) (v := 8) (dd d_Mch_init_1 1 rfl) (by decide) ?_
  refine g_bipush (pc := 123) (v := 25) (dd d_Mch_init_1 2 rfl) (by decide) ?_
  refine g_sipush (pc := 125) (v := 200) (dd d_Mch_init_1 3 rfl) (by decide) ?_
  refine g_newa (pc := 128) (N := 200) (t := 0) (dd d_Mch_init_1 4 rfl) rfl ac_int rfl rfl (by decide) (by decide) (by decide) (F29 _ (by decide)) (by omega) (by rw [hR]; decide) (by rw [hR]; decide) (Or.inl rfl) ?_
  have F30 := fS F29
  refine g_callI (pc := 130) (dd d_Mch_init_1 5 rfl) ci_Mch_56 (ec_Rng79 F30) rfl (by rw [hk]; decide) (Nat.le_of_ble_eq_true rfl) (by rw [hR]; exact ⟨by decide, by decide⟩) rfl (by omega) ?_
  have F31 := fr_Rng79 (Δ := Δ) F30
  refine g_putR (pc := 133) (j := 17) (dd d_Mch_init_1 6 rfl) f_Mch_59 (Or.inr ⟨fi_Mch_17, rfl⟩) ⟨by decide, rfl⟩ rfl (fun _ => rfl) (fun _ => rfl) ?_
  have F32 := fR (b := 64) (j := 17) (v := .ref (Δ.ba + 79)) F31 (by decide)
  refine g_aload_n (pc := 136) (dd d_Mch_init_1 7 rfl) rfl ?_
  refine g_new (pc := 137) (dd d_Mch_init_1 8 rfl) nw_Mch_54 rfl (F32 _ (by decide)) (by omega) (by rw [hR]; decide) (by rw [hR]; decide) ?_
  have F33 := fS F32
  refine g_dup (pc := 140) (dd d_Mch_init_1 9 rfl) rfl ?_
  refine g_bipush (pc := 141) (v := 16) (dd d_Mch_init_1 10 rfl) (by decide) ?_
  refine g_bipush (pc := 143) (v := 6) (dd d_Mch_init_1 11 rfl) (by decide) ?_
  refine g_bipush (pc := 145) (v := 96) (dd d_Mch_init_1 12 rfl) (by decide) ?_
  refine g_newa (pc := 147) (N := 96) (t := 0) (dd d_Mch_init_1 13 rfl) rfl ac_int rfl rfl (by decide) (by decide) (by decide) (F33 _ (by decide)) (by omega) (by rw [hR]; decide) (by rw [hR]; decide) (Or.inl rfl) ?_
  have F34 := fS F33
  refine g_callI (pc := 149) (dd d_Mch_init_1 14 rfl) ci_Mch_56 (ec_Rng81 F34) rfl (by rw [hk]; decide) (Nat.le_of_ble_eq_true rfl) (by rw [hR]; exact ⟨by decide, by decide⟩) rfl (by omega) ?_
  have F35 := fr_Rng81 (Δ := Δ) F34
  refine g_putR (pc := 152) (j := 18) (dd d_Mch_init_1 15 rfl) f_Mch_63 (Or.inr ⟨fi_Mch_18, rfl⟩) ⟨by decide, rfl⟩ rfl (fun _ => rfl) (fun _ => rfl) ?_
  have F36 := fR (b := 64) (j := 18) (v := .ref (Δ.ba + 81)) F35 (by decide)
  refine g_aload_n (pc := 155) (dd d_Mch_init_1 16 rfl) rfl ?_
  refine g_iconst (pc := 156) (v := (-1)) (dd d_Mch_init_1 17 rfl) (by decide) ?_
  refine g_putI (pc := 157) (j := 1) (dd d_Mch_init_1 18 rfl) f_Mch_66 (Or.inl fm_Mch_1) ⟨by decide, rfl⟩ rfl ?_
  have F37 := fI (b := 64) (j := 1) (v := (-1)) F36 (by decide)
  refine g_aload_n (pc := 160) (dd d_Mch_init_1 19 rfl) rfl ?_
  refine g_iconst (pc := 161) (v := (-1)) (dd d_Mch_init_1 20 rfl) (by decide) ?_
  refine g_putI (pc := 162) (j := 2) (dd d_Mch_init_1 21 rfl) f_Mch_70 (Or.inl fm_Mch_2) ⟨by decide, rfl⟩ rfl ?_
  have F38 := fI (b := 64) (j := 2) (v := (-1)) F37 (by decide)
  exact g_vret (pc := 165) rfl (dd d_Mch_init_1 22 rfl) hT
def s_Rng98 (Δ : Dx) (σ : St) : St := (stR (stI (stI σ 98 2 8) 98 3 25) 98 4 (.ref (Δ.ba + 99)))
theorem fr_Rng98 {Δ : Dx} {σ : St} (hF : ∀ a, 100 ≤ a → Fresh σ a) : ∀ a, 100 ≤ a → Fresh (s_Rng98 Δ σ) a := by
  have F0 := hF
  have F1 := fI (b := 98) (j := 2) (v := 8) F0 (by decide)
  have F2 := fI (b := 98) (j := 3) (v := 25) F1 (by decide)
  have F3 := fR (b := 98) (j := 4) (v := .ref (Δ.ba + 99)) F2 (by decide)
  exact F3
set_option maxRecDepth 20000 in
set_option maxHeartbeats 4000000 in
theorem ec_Rng98 {Δ : Dx} {σ : St} (hF : ∀ a, 100 ≤ a → Fresh σ a) : EvC Δ 1 m_Rng_init 100 [.ref (Δ.ba + 98), .int 8, .int 25, .ref (Δ.ba + 99)] σ 100 (s_Rng98 Δ σ) 0 0 := by
  refine evC_of (by decide) (Nat.le_of_ble_eq_true rfl) (fun Γ hk hR hT hz => ?_)
  unfold s_Rng98 at hT
  have F0 := hF
  refine g_aload_n (pc := 0) (dd d_Rng_init 0 rfl) rfl ?_
  refine g_objInit (pc := 1) (dd d_Rng_init 1 rfl) oi_Rng_3 oi_1 oi_2 (by rw [hk]; decide) (Nat.le_of_ble_eq_true rfl) ?_
  refine g_aload_n (pc := 4) (dd d_Rng_init 2 rfl) rfl ?_
  refine g_iload_n (pc := 5) (dd d_Rng_init 3 rfl) rfl ?_
  refine g_putI (pc := 6) (j := 2) (dd d_Rng_init 4 rfl) f_Rng_9 (Or.inr ⟨fi_Rng_2, rfl⟩) ⟨by decide, rfl⟩ rfl ?_
  have F1 := fI (b := 98) (j := 2) (v := 8) F0 (by decide)
  refine g_aload_n (pc := 9) (dd d_Rng_init 5 rfl) rfl ?_
  refine g_iload_n (pc := 10) (dd d_Rng_init 6 rfl) rfl ?_
  refine g_putI (pc := 11) (j := 3) (dd d_Rng_init 7 rfl) f_Rng_15 (Or.inr ⟨fi_Rng_3, rfl⟩) ⟨by decide, rfl⟩ rfl ?_
  have F2 := fI (b := 98) (j := 3) (v := 25) F1 (by decide)
  refine g_aload_n (pc := 14) (dd d_Rng_init 8 rfl) rfl ?_
  refine g_aload_n (pc := 15) (dd d_Rng_init 9 rfl) rfl ?_
  refine g_putR (pc := 16) (j := 4) (dd d_Rng_init 10 rfl) f_Rng_18 (Or.inr ⟨fi_Rng_4, rfl⟩) ⟨by decide, rfl⟩ rfl (fun _ => rfl) (fun _ => rfl) ?_
  have F3 := fR (b := 98) (j := 4) (v := .ref (Δ.ba + 99)) F2 (by decide)
  exact g_vret (pc := 19) rfl (dd d_Rng_init 11 rfl) hT
def s_Rng100 (Δ : Dx) (σ : St) : St := (stR (stI (stI σ 100 2 16) 100 3 6) 100 4 (.ref (Δ.ba + 101)))
theorem fr_Rng100 {Δ : Dx} {σ : St} (hF : ∀ a, 102 ≤ a → Fresh σ a) : ∀ a, 102 ≤ a → Fresh (s_Rng100 Δ σ) a := by
  have F0 := hF
  have F1 := fI (b := 100) (j := 2) (v := 16) F0 (by decide)
  have F2 := fI (b := 100) (j := 3) (v := 6) F1 (by decide)
  have F3 := fR (b := 100) (j := 4) (v := .ref (Δ.ba + 101)) F2 (by decide)
  exact F3
set_option maxRecDepth 20000 in
set_option maxHeartbeats 4000000 in
theorem ec_Rng100 {Δ : Dx} {σ : St} (hF : ∀ a, 102 ≤ a → Fresh σ a) : EvC Δ 1 m_Rng_init 102 [.ref (Δ.ba + 100), .int 16, .int 6, .ref (Δ.ba + 101)] σ 102 (s_Rng100 Δ σ) 0 0 := by
  refine evC_of (by decide) (Nat.le_of_ble_eq_true rfl) (fun Γ hk hR hT hz => ?_)
  unfold s_Rng100 at hT
  have F0 := hF
  refine g_aload_n (pc := 0) (dd d_Rng_init 0 rfl) rfl ?_
  refine g_objInit (pc := 1) (dd d_Rng_init 1 rfl) oi_Rng_3 oi_1 oi_2 (by rw [hk]; decide) (Nat.le_of_ble_eq_true rfl) ?_
  refine g_aload_n (pc := 4) (dd d_Rng_init 2 rfl) rfl ?_
  refine g_iload_n (pc := 5) (dd d_Rng_init 3 rfl) rfl ?_
  refine g_putI (pc := 6) (j := 2) (dd d_Rng_init 4 rfl) f_Rng_9 (Or.inr ⟨fi_Rng_2, rfl⟩) ⟨by decide, rfl⟩ rfl ?_
  have F1 := fI (b := 100) (j := 2) (v := 16) F0 (by decide)
  refine g_aload_n (pc := 9) (dd d_Rng_init 5 rfl) rfl ?_
  refine g_iload_n (pc := 10) (dd d_Rng_init 6 rfl) rfl ?_
  refine g_putI (pc := 11) (j := 3) (dd d_Rng_init 7 rfl) f_Rng_15 (Or.inr ⟨fi_Rng_3, rfl⟩) ⟨by decide, rfl⟩ rfl ?_
  have F2 := fI (b := 100) (j := 3) (v := 6) F1 (by decide)
  refine g_aload_n (pc := 14) (dd d_Rng_init 8 rfl) rfl ?_
  refine g_aload_n (pc := 15) (dd d_Rng_init 9 rfl) rfl ?_
  refine g_putR (pc := 16) (j := 4) (dd d_Rng_init 10 rfl) f_Rng_18 (Or.inr ⟨fi_Rng_4, rfl⟩) ⟨by decide, rfl⟩ rfl (fun _ => rfl) (fun _ => rfl) ?_
  have F3 := fR (b := 100) (j := 4) (v := .ref (Δ.ba + 101)) F2 (by decide)
  exact g_vret (pc := 19) rfl (dd d_Rng_init 11 rfl) hT
def s_Mch83 (Δ : Dx) (σ : St) : St := (stI (stI (stR (s_Rng100 Δ (stR (s_Rng98 Δ (stR (stR (stR (stR (stR (stR (stR (stR (stR (stR (stR (stR (stR (stR σ 83 3 (.ref (Δ.ba + 84))) 83 4 (.ref (Δ.ba + 85))) 83 5 (.ref (Δ.ba + 86))) 83 6 (.ref (Δ.ba + 87))) 83 7 (.ref (Δ.ba + 88))) 83 8 (.ref (Δ.ba + 89))) 83 9 (.ref (Δ.ba + 90))) 83 10 (.ref (Δ.ba + 91))) 83 11 (.ref (Δ.ba + 92))) 83 12 (.ref (Δ.ba + 93))) 83 13 (.ref (Δ.ba + 94))) 83 14 (.ref (Δ.ba + 95))) 83 15 (.ref (Δ.ba + 96))) 83 16 (.ref (Δ.ba + 97)))) 83 17 (.ref (Δ.ba + 98)))) 83 18 (.ref (Δ.ba + 100))) 83 1 (-1)) 83 2 (-1))
theorem fr_Mch83 {Δ : Dx} {σ : St} (hF : ∀ a, 84 ≤ a → Fresh σ a) : ∀ a, 102 ≤ a → Fresh (s_Mch83 Δ σ) a := by
  have F0 := hF
  have F1 := fS F0
  have F2 := fR (b := 83) (j := 3) (v := .ref (Δ.ba + 84)) F1 (by decide)
  have F3 := fS F2
  have F4 := fR (b := 83) (j := 4) (v := .ref (Δ.ba + 85)) F3 (by decide)
  have F5 := fS F4
  have F6 := fR (b := 83) (j := 5) (v := .ref (Δ.ba + 86)) F5 (by decide)
  have F7 := fS F6
  have F8 := fR (b := 83) (j := 6) (v := .ref (Δ.ba + 87)) F7 (by decide)
  have F9 := fS F8
  have F10 := fR (b := 83) (j := 7) (v := .ref (Δ.ba + 88)) F9 (by decide)
  have F11 := fS F10
  have F12 := fR (b := 83) (j := 8) (v := .ref (Δ.ba + 89)) F11 (by decide)
  have F13 := fS F12
  have F14 := fR (b := 83) (j := 9) (v := .ref (Δ.ba + 90)) F13 (by decide)
  have F15 := fS F14
  have F16 := fR (b := 83) (j := 10) (v := .ref (Δ.ba + 91)) F15 (by decide)
  have F17 := fS F16
  have F18 := fR (b := 83) (j := 11) (v := .ref (Δ.ba + 92)) F17 (by decide)
  have F19 := fS F18
  have F20 := fR (b := 83) (j := 12) (v := .ref (Δ.ba + 93)) F19 (by decide)
  have F21 := fS F20
  have F22 := fR (b := 83) (j := 13) (v := .ref (Δ.ba + 94)) F21 (by decide)
  have F23 := fS F22
  have F24 := fR (b := 83) (j := 14) (v := .ref (Δ.ba + 95)) F23 (by decide)
  have F25 := fS F24
  have F26 := fR (b := 83) (j := 15) (v := .ref (Δ.ba + 96)) F25 (by decide)
  have F27 := fS F26
  have F28 := fR (b := 83) (j := 16) (v := .ref (Δ.ba + 97)) F27 (by decide)
  have F29 := fS F28
  have F30 := fS F29
  have F31 := fr_Rng98 (Δ := Δ) F30
  have F32 := fR (b := 83) (j := 17) (v := .ref (Δ.ba + 98)) F31 (by decide)
  have F33 := fS F32
  have F34 := fS F33
  have F35 := fr_Rng100 (Δ := Δ) F34
  have F36 := fR (b := 83) (j := 18) (v := .ref (Δ.ba + 100)) F35 (by decide)
  have F37 := fI (b := 83) (j := 1) (v := (-1)) F36 (by decide)
  have F38 := fI (b := 83) (j := 2) (v := (-1)) F37 (by decide)
  exact F38
set_option maxRecDepth 20000 in
set_option maxHeartbeats 4000000 in
theorem ec_Mch83 {Δ : Dx} {σ : St} (hF : ∀ a, 84 ≤ a → Fresh σ a) : EvC Δ 2 m_Mch_init 84 [.ref (Δ.ba + 83)] σ 102 (s_Mch83 Δ σ) 18 1028 := by
  refine evC_of (by decide) (Nat.le_of_ble_eq_true rfl) (fun Γ hk hR hT hz => ?_)
  unfold s_Mch83 at hT
  have F0 := hF
  refine g_aload_n (pc := 0) (dd d_Mch_init 0 rfl) rfl ?_
  refine g_objInit (pc := 1) (dd d_Mch_init 1 rfl) oi_Mch_3 oi_1 oi_2 (by rw [hk]; decide) (Nat.le_of_ble_eq_true rfl) ?_
  refine g_aload_n (pc := 4) (dd d_Mch_init 2 rfl) rfl ?_
  refine g_bipush (pc := 5) (v := 64) (dd d_Mch_init 3 rfl) (by decide) ?_
  refine g_newa (pc := 7) (N := 64) (t := 0) (dd d_Mch_init 4 rfl) rfl ac_int rfl rfl (by decide) (by decide) (by decide) (F0 _ (by decide)) (by omega) (by rw [hR]; decide) (by rw [hR]; decide) (Or.inl rfl) ?_
  have F1 := fS F0
  refine g_putR (pc := 9) (j := 3) (dd d_Mch_init 5 rfl) f_Mch_9 (Or.inr ⟨fi_Mch_3, rfl⟩) ⟨by decide, rfl⟩ rfl (fun _ => rfl) (fun _ => rfl) ?_
  have F2 := fR (b := 83) (j := 3) (v := .ref (Δ.ba + 84)) F1 (by decide)
  refine g_aload_n (pc := 12) (dd d_Mch_init 6 rfl) rfl ?_
  refine g_bipush (pc := 13) (v := 64) (dd d_Mch_init 7 rfl) (by decide) ?_
  refine g_newa (pc := 15) (N := 64) (t := 0) (dd d_Mch_init 8 rfl) rfl ac_int rfl rfl (by decide) (by decide) (by decide) (F2 _ (by decide)) (by omega) (by rw [hR]; decide) (by rw [hR]; decide) (Or.inl rfl) ?_
  have F3 := fS F2
  refine g_putR (pc := 17) (j := 4) (dd d_Mch_init 9 rfl) f_Mch_15 (Or.inr ⟨fi_Mch_4, rfl⟩) ⟨by decide, rfl⟩ rfl (fun _ => rfl) (fun _ => rfl) ?_
  have F4 := fR (b := 83) (j := 4) (v := .ref (Δ.ba + 85)) F3 (by decide)
  refine g_aload_n (pc := 20) (dd d_Mch_init 10 rfl) rfl ?_
  refine g_bipush (pc := 21) (v := 96) (dd d_Mch_init 11 rfl) (by decide) ?_
  refine g_newa (pc := 23) (N := 96) (t := 0) (dd d_Mch_init 12 rfl) rfl ac_int rfl rfl (by decide) (by decide) (by decide) (F4 _ (by decide)) (by omega) (by rw [hR]; decide) (by rw [hR]; decide) (Or.inl rfl) ?_
  have F5 := fS F4
  refine g_putR (pc := 25) (j := 5) (dd d_Mch_init 13 rfl) f_Mch_18 (Or.inr ⟨fi_Mch_5, rfl⟩) ⟨by decide, rfl⟩ rfl (fun _ => rfl) (fun _ => rfl) ?_
  have F6 := fR (b := 83) (j := 5) (v := .ref (Δ.ba + 86)) F5 (by decide)
  refine g_aload_n (pc := 28) (dd d_Mch_init 14 rfl) rfl ?_
  refine g_bipush (pc := 29) (v := 96) (dd d_Mch_init 15 rfl) (by decide) ?_
  refine g_newa (pc := 31) (N := 96) (t := 0) (dd d_Mch_init 16 rfl) rfl ac_int rfl rfl (by decide) (by decide) (by decide) (F6 _ (by decide)) (by omega) (by rw [hR]; decide) (by rw [hR]; decide) (Or.inl rfl) ?_
  have F7 := fS F6
  refine g_putR (pc := 33) (j := 6) (dd d_Mch_init 17 rfl) f_Mch_21 (Or.inr ⟨fi_Mch_6, rfl⟩) ⟨by decide, rfl⟩ rfl (fun _ => rfl) (fun _ => rfl) ?_
  have F8 := fR (b := 83) (j := 6) (v := .ref (Δ.ba + 87)) F7 (by decide)
  refine g_aload_n (pc := 36) (dd d_Mch_init 18 rfl) rfl ?_
  refine g_bipush (pc := 37) (v := 96) (dd d_Mch_init 19 rfl) (by decide) ?_
  refine g_newa (pc := 39) (N := 96) (t := 0) (dd d_Mch_init 20 rfl) rfl ac_int rfl rfl (by decide) (by decide) (by decide) (F8 _ (by decide)) (by omega) (by rw [hR]; decide) (by rw [hR]; decide) (Or.inl rfl) ?_
  have F9 := fS F8
  refine g_putR (pc := 41) (j := 7) (dd d_Mch_init 21 rfl) f_Mch_24 (Or.inr ⟨fi_Mch_7, rfl⟩) ⟨by decide, rfl⟩ rfl (fun _ => rfl) (fun _ => rfl) ?_
  have F10 := fR (b := 83) (j := 7) (v := .ref (Δ.ba + 88)) F9 (by decide)
  refine g_aload_n (pc := 44) (dd d_Mch_init 22 rfl) rfl ?_
  refine g_bipush (pc := 45) (v := 9) (dd d_Mch_init 23 rfl) (by decide) ?_
  refine g_newa (pc := 47) (N := 9) (t := 0) (dd d_Mch_init 24 rfl) rfl ac_int rfl rfl (by decide) (by decide) (by decide) (F10 _ (by decide)) (by omega) (by rw [hR]; decide) (by rw [hR]; decide) (Or.inl rfl) ?_
  have F11 := fS F10
  refine g_putR (pc := 49) (j := 8) (dd d_Mch_init 25 rfl) f_Mch_27 (Or.inr ⟨fi_Mch_8, rfl⟩) ⟨by decide, rfl⟩ rfl (fun _ => rfl) (fun _ => rfl) ?_
  have F12 := fR (b := 83) (j := 8) (v := .ref (Δ.ba + 89)) F11 (by decide)
  refine g_aload_n (pc := 52) (dd d_Mch_init 26 rfl) rfl ?_
  refine g_bipush (pc := 53) (v := 9) (dd d_Mch_init 27 rfl) (by decide) ?_
  refine g_newa (pc := 55) (N := 9) (t := 0) (dd d_Mch_init 28 rfl) rfl ac_int rfl rfl (by decide) (by decide) (by decide) (F12 _ (by decide)) (by omega) (by rw [hR]; decide) (by rw [hR]; decide) (Or.inl rfl) ?_
  have F13 := fS F12
  refine g_putR (pc := 57) (j := 9) (dd d_Mch_init 29 rfl) f_Mch_30 (Or.inr ⟨fi_Mch_9, rfl⟩) ⟨by decide, rfl⟩ rfl (fun _ => rfl) (fun _ => rfl) ?_
  have F14 := fR (b := 83) (j := 9) (v := .ref (Δ.ba + 90)) F13 (by decide)
  refine g_aload_n (pc := 60) (dd d_Mch_init 30 rfl) rfl ?_
  refine g_bipush (pc := 61) (v := 16) (dd d_Mch_init 31 rfl) (by decide) ?_
  refine g_newa (pc := 63) (N := 16) (t := 0) (dd d_Mch_init 32 rfl) rfl ac_int rfl rfl (by decide) (by decide) (by decide) (F14 _ (by decide)) (by omega) (by rw [hR]; decide) (by rw [hR]; decide) (Or.inl rfl) ?_
  have F15 := fS F14
  refine g_putR (pc := 65) (j := 10) (dd d_Mch_init 33 rfl) f_Mch_33 (Or.inr ⟨fi_Mch_10, rfl⟩) ⟨by decide, rfl⟩ rfl (fun _ => rfl) (fun _ => rfl) ?_
  have F16 := fR (b := 83) (j := 10) (v := .ref (Δ.ba + 91)) F15 (by decide)
  refine g_aload_n (pc := 68) (dd d_Mch_init 34 rfl) rfl ?_
  refine g_bipush (pc := 69) (v := 16) (dd d_Mch_init 35 rfl) (by decide) ?_
  refine g_newa (pc := 71) (N := 16) (t := 0) (dd d_Mch_init 36 rfl) rfl ac_int rfl rfl (by decide) (by decide) (by decide) (F16 _ (by decide)) (by omega) (by rw [hR]; decide) (by rw [hR]; decide) (Or.inl rfl) ?_
  have F17 := fS F16
  refine g_putR (pc := 73) (j := 11) (dd d_Mch_init 37 rfl) f_Mch_36 (Or.inr ⟨fi_Mch_11, rfl⟩) ⟨by decide, rfl⟩ rfl (fun _ => rfl) (fun _ => rfl) ?_
  have F18 := fR (b := 83) (j := 11) (v := .ref (Δ.ba + 92)) F17 (by decide)
  refine g_aload_n (pc := 76) (dd d_Mch_init 38 rfl) rfl ?_
  refine g_bipush (pc := 77) (v := 40) (dd d_Mch_init 39 rfl) (by decide) ?_
  refine g_newa (pc := 79) (N := 40) (t := 0) (dd d_Mch_init 40 rfl) rfl ac_int rfl rfl (by decide) (by decide) (by decide) (F18 _ (by decide)) (by omega) (by rw [hR]; decide) (by rw [hR]; decide) (Or.inl rfl) ?_
  have F19 := fS F18
  refine g_putR (pc := 81) (j := 12) (dd d_Mch_init 41 rfl) f_Mch_39 (Or.inr ⟨fi_Mch_12, rfl⟩) ⟨by decide, rfl⟩ rfl (fun _ => rfl) (fun _ => rfl) ?_
  have F20 := fR (b := 83) (j := 12) (v := .ref (Δ.ba + 93)) F19 (by decide)
  refine g_aload_n (pc := 84) (dd d_Mch_init 42 rfl) rfl ?_
  refine g_bipush (pc := 85) (v := 60) (dd d_Mch_init 43 rfl) (by decide) ?_
  refine g_newa (pc := 87) (N := 60) (t := 0) (dd d_Mch_init 44 rfl) rfl ac_int rfl rfl (by decide) (by decide) (by decide) (F20 _ (by decide)) (by omega) (by rw [hR]; decide) (by rw [hR]; decide) (Or.inl rfl) ?_
  have F21 := fS F20
  refine g_putR (pc := 89) (j := 13) (dd d_Mch_init 45 rfl) f_Mch_42 (Or.inr ⟨fi_Mch_13, rfl⟩) ⟨by decide, rfl⟩ rfl (fun _ => rfl) (fun _ => rfl) ?_
  have F22 := fR (b := 83) (j := 13) (v := .ref (Δ.ba + 94)) F21 (by decide)
  refine g_aload_n (pc := 92) (dd d_Mch_init 46 rfl) rfl ?_
  refine g_bipush (pc := 93) (v := 60) (dd d_Mch_init 47 rfl) (by decide) ?_
  refine g_newa (pc := 95) (N := 60) (t := 0) (dd d_Mch_init 48 rfl) rfl ac_int rfl rfl (by decide) (by decide) (by decide) (F22 _ (by decide)) (by omega) (by rw [hR]; decide) (by rw [hR]; decide) (Or.inl rfl) ?_
  have F23 := fS F22
  refine g_putR (pc := 97) (j := 14) (dd d_Mch_init 49 rfl) f_Mch_45 (Or.inr ⟨fi_Mch_14, rfl⟩) ⟨by decide, rfl⟩ rfl (fun _ => rfl) (fun _ => rfl) ?_
  have F24 := fR (b := 83) (j := 14) (v := .ref (Δ.ba + 95)) F23 (by decide)
  refine g_aload_n (pc := 100) (dd d_Mch_init 50 rfl) rfl ?_
  refine g_bipush (pc := 101) (v := 8) (dd d_Mch_init 51 rfl) (by decide) ?_
  refine g_newa (pc := 103) (N := 8) (t := 0) (dd d_Mch_init 52 rfl) rfl ac_int rfl rfl (by decide) (by decide) (by decide) (F24 _ (by decide)) (by omega) (by rw [hR]; decide) (by rw [hR]; decide) (Or.inl rfl) ?_
  have F25 := fS F24
  refine g_putR (pc := 105) (j := 15) (dd d_Mch_init 53 rfl) f_Mch_48 (Or.inr ⟨fi_Mch_15, rfl⟩) ⟨by decide, rfl⟩ rfl (fun _ => rfl) (fun _ => rfl) ?_
  have F26 := fR (b := 83) (j := 15) (v := .ref (Δ.ba + 96)) F25 (by decide)
  refine g_aload_n (pc := 108) (dd d_Mch_init 54 rfl) rfl ?_
  refine g_bipush (pc := 109) (v := 88) (dd d_Mch_init 55 rfl) (by decide) ?_
  refine g_newa (pc := 111) (N := 88) (t := 0) (dd d_Mch_init 56 rfl) rfl ac_int rfl rfl (by decide) (by decide) (by decide) (F26 _ (by decide)) (by omega) (by rw [hR]; decide) (by rw [hR]; decide) (Or.inl rfl) ?_
  have F27 := fS F26
  refine g_putR (pc := 113) (j := 16) (dd d_Mch_init 57 rfl) f_Mch_51 (Or.inr ⟨fi_Mch_16, rfl⟩) ⟨by decide, rfl⟩ rfl (fun _ => rfl) (fun _ => rfl) ?_
  have F28 := fR (b := 83) (j := 16) (v := .ref (Δ.ba + 97)) F27 (by decide)
  refine g_aload_n (pc := 116) (dd d_Mch_init 58 rfl) rfl ?_
  refine g_new (pc := 117) (dd d_Mch_init 59 rfl) nw_Mch_54 rfl (F28 _ (by decide)) (by omega) (by rw [hR]; decide) (by rw [hR]; decide) ?_
  have F29 := fS F28
  refine g_dup (pc := 120) (dd d_Mch_init_1 0 rfl) rfl ?_
  refine g_bipush (pc := 121) (v := 8) (dd d_Mch_init_1 1 rfl) (by decide) ?_
  refine g_bipush (pc := 123) (v := 25) (dd d_Mch_init_1 2 rfl) (by decide) ?_
  refine g_sipush (pc := 125) (v := 200) (dd d_Mch_init_1 3 rfl) (by decide) ?_
  refine g_newa (pc := 128) (N := 200) (t := 0) (dd d_Mch_init_1 4 rfl) rfl ac_int rfl rfl (by decide) (by decide) (by decide) (F29 _ (by decide)) (by omega) (by rw [hR]; decide) (by rw [hR]; decide) (Or.inl rfl) ?_
  have F30 := fS F29
  refine g_callI (pc := 130) (dd d_Mch_init_1 5 rfl) ci_Mch_56 (ec_Rng98 F30) rfl (by rw [hk]; decide) (Nat.le_of_ble_eq_true rfl) (by rw [hR]; exact ⟨by decide, by decide⟩) rfl (by omega) ?_
  have F31 := fr_Rng98 (Δ := Δ) F30
  refine g_putR (pc := 133) (j := 17) (dd d_Mch_init_1 6 rfl) f_Mch_59 (Or.inr ⟨fi_Mch_17, rfl⟩) ⟨by decide, rfl⟩ rfl (fun _ => rfl) (fun _ => rfl) ?_
  have F32 := fR (b := 83) (j := 17) (v := .ref (Δ.ba + 98)) F31 (by decide)
  refine g_aload_n (pc := 136) (dd d_Mch_init_1 7 rfl) rfl ?_
  refine g_new (pc := 137) (dd d_Mch_init_1 8 rfl) nw_Mch_54 rfl (F32 _ (by decide)) (by omega) (by rw [hR]; decide) (by rw [hR]; decide) ?_
  have F33 := fS F32
  refine g_dup (pc := 140) (dd d_Mch_init_1 9 rfl) rfl ?_
  refine g_bipush (pc := 141) (v := 16) (dd d_Mch_init_1 10 rfl) (by decide) ?_
  refine g_bipush (pc := 143) (v := 6) (dd d_Mch_init_1 11 rfl) (by decide) ?_
  refine g_bipush (pc := 145) (v := 96) (dd d_Mch_init_1 12 rfl) (by decide) ?_
  refine g_newa (pc := 147) (N := 96) (t := 0) (dd d_Mch_init_1 13 rfl) rfl ac_int rfl rfl (by decide) (by decide) (by decide) (F33 _ (by decide)) (by omega) (by rw [hR]; decide) (by rw [hR]; decide) (Or.inl rfl) ?_
  have F34 := fS F33
  refine g_callI (pc := 149) (dd d_Mch_init_1 14 rfl) ci_Mch_56 (ec_Rng100 F34) rfl (by rw [hk]; decide) (Nat.le_of_ble_eq_true rfl) (by rw [hR]; exact ⟨by decide, by decide⟩) rfl (by omega) ?_
  have F35 := fr_Rng100 (Δ := Δ) F34
  refine g_putR (pc := 152) (j := 18) (dd d_Mch_init_1 15 rfl) f_Mch_63 (Or.inr ⟨fi_Mch_18, rfl⟩) ⟨by decide, rfl⟩ rfl (fun _ => rfl) (fun _ => rfl) ?_
  have F36 := fR (b := 83) (j := 18) (v := .ref (Δ.ba + 100)) F35 (by decide)
  refine g_aload_n (pc := 155) (dd d_Mch_init_1 16 rfl) rfl ?_
  refine g_iconst (pc := 156) (v := (-1)) (dd d_Mch_init_1 17 rfl) (by decide) ?_
  refine g_putI (pc := 157) (j := 1) (dd d_Mch_init_1 18 rfl) f_Mch_66 (Or.inl fm_Mch_1) ⟨by decide, rfl⟩ rfl ?_
  have F37 := fI (b := 83) (j := 1) (v := (-1)) F36 (by decide)
  refine g_aload_n (pc := 160) (dd d_Mch_init_1 19 rfl) rfl ?_
  refine g_iconst (pc := 161) (v := (-1)) (dd d_Mch_init_1 20 rfl) (by decide) ?_
  refine g_putI (pc := 162) (j := 2) (dd d_Mch_init_1 21 rfl) f_Mch_70 (Or.inl fm_Mch_2) ⟨by decide, rfl⟩ rfl ?_
  have F38 := fI (b := 83) (j := 2) (v := (-1)) F37 (by decide)
  exact g_vret (pc := 165) rfl (dd d_Mch_init_1 22 rfl) hT
def s_Eng0 (Δ : Dx) (σ : St) : St := (stR (s_Mch83 Δ (stR (s_Mch64 Δ (stR (s_Pol57 Δ (stR (s_Sbd55 Δ (stR (s_Pol48 Δ (stR (s_Cmp40 Δ (stR (s_Stp35 Δ (stR (s_Img15 Δ (stR (s_Prd7 Δ (stR (s_Rdr1 Δ σ) 0 0 (.ref (Δ.ba + 1)))) 0 1 (.ref (Δ.ba + 7)))) 0 2 (.ref (Δ.ba + 15)))) 0 3 (.ref (Δ.ba + 35)))) 0 4 (.ref (Δ.ba + 40)))) 0 5 (.ref (Δ.ba + 48)))) 0 6 (.ref (Δ.ba + 55)))) 0 7 (.ref (Δ.ba + 57)))) 0 8 (.ref (Δ.ba + 64)))) 0 9 (.ref (Δ.ba + 83)))
theorem fr_Eng0 {Δ : Dx} {σ : St} (hF : ∀ a, 1 ≤ a → Fresh σ a) : ∀ a, 102 ≤ a → Fresh (s_Eng0 Δ σ) a := by
  have F0 := hF
  have F1 := fS F0
  have F2 := fr_Rdr1 (Δ := Δ) F1
  have F3 := fR (b := 0) (j := 0) (v := .ref (Δ.ba + 1)) F2 (by decide)
  have F4 := fS F3
  have F5 := fr_Prd7 (Δ := Δ) F4
  have F6 := fR (b := 0) (j := 1) (v := .ref (Δ.ba + 7)) F5 (by decide)
  have F7 := fS F6
  have F8 := fr_Img15 (Δ := Δ) F7
  have F9 := fR (b := 0) (j := 2) (v := .ref (Δ.ba + 15)) F8 (by decide)
  have F10 := fS F9
  have F11 := fr_Stp35 (Δ := Δ) F10
  have F12 := fR (b := 0) (j := 3) (v := .ref (Δ.ba + 35)) F11 (by decide)
  have F13 := fS F12
  have F14 := fr_Cmp40 (Δ := Δ) F13
  have F15 := fR (b := 0) (j := 4) (v := .ref (Δ.ba + 40)) F14 (by decide)
  have F16 := fS F15
  have F17 := fr_Pol48 (Δ := Δ) F16
  have F18 := fR (b := 0) (j := 5) (v := .ref (Δ.ba + 48)) F17 (by decide)
  have F19 := fS F18
  have F20 := fr_Sbd55 (Δ := Δ) F19
  have F21 := fR (b := 0) (j := 6) (v := .ref (Δ.ba + 55)) F20 (by decide)
  have F22 := fS F21
  have F23 := fr_Pol57 (Δ := Δ) F22
  have F24 := fR (b := 0) (j := 7) (v := .ref (Δ.ba + 57)) F23 (by decide)
  have F25 := fS F24
  have F26 := fr_Mch64 (Δ := Δ) F25
  have F27 := fR (b := 0) (j := 8) (v := .ref (Δ.ba + 64)) F26 (by decide)
  have F28 := fS F27
  have F29 := fr_Mch83 (Δ := Δ) F28
  have F30 := fR (b := 0) (j := 9) (v := .ref (Δ.ba + 83)) F29 (by decide)
  exact F30
set_option maxRecDepth 20000 in
set_option maxHeartbeats 4000000 in
theorem ec_Eng0 {Δ : Dx} {σ : St} (hKx : Kx Δ Δ.s0) (hF : ∀ a, 1 ≤ a → Fresh σ a) : EvC Δ 6 m_Eng_init 1 [.ref (Δ.ba + 0)] σ 102 (s_Eng0 Δ σ) 101 12839 := by
  refine evC_of (by decide) (Nat.le_of_ble_eq_true rfl) (fun Γ hk hR hT hz => ?_)
  unfold s_Eng0 at hT
  have F0 := hF
  refine g_aload_n (pc := 0) (dd d_Eng_init 0 rfl) rfl ?_
  refine g_objInit (pc := 1) (dd d_Eng_init 1 rfl) oi_Eng_3 oi_1 oi_2 (by rw [hk]; decide) (Nat.le_of_ble_eq_true rfl) ?_
  refine g_aload_n (pc := 4) (dd d_Eng_init 2 rfl) rfl ?_
  refine g_new (pc := 5) (dd d_Eng_init 3 rfl) nw_Eng_9 rfl (F0 _ (by decide)) (by omega) (by rw [hR]; decide) (by rw [hR]; decide) ?_
  have F1 := fS F0
  refine g_dup (pc := 8) (dd d_Eng_init 4 rfl) rfl ?_
  refine g_callI (pc := 9) (dd d_Eng_init 5 rfl) ci_Eng_11 (ec_Rdr1 hKx F1) rfl (by rw [hk]; decide) (Nat.le_of_ble_eq_true rfl) (by rw [hR]; exact ⟨by decide, by decide⟩) rfl (by omega) ?_
  have F2 := fr_Rdr1 (Δ := Δ) F1
  refine g_putR (pc := 12) (j := 0) (dd d_Eng_init 6 rfl) f_Eng_12 (Or.inr ⟨fi_Eng_0, rfl⟩) ⟨by decide, rfl⟩ rfl (fun _ => rfl) (fun _ => rfl) ?_
  have F3 := fR (b := 0) (j := 0) (v := .ref (Δ.ba + 1)) F2 (by decide)
  refine g_aload_n (pc := 15) (dd d_Eng_init 7 rfl) rfl ?_
  refine g_new (pc := 16) (dd d_Eng_init 8 rfl) nw_Eng_16 rfl (F3 _ (by decide)) (by omega) (by rw [hR]; decide) (by rw [hR]; decide) ?_
  have F4 := fS F3
  refine g_dup (pc := 19) (dd d_Eng_init 9 rfl) rfl ?_
  refine g_aload_n (pc := 20) (dd d_Eng_init 10 rfl) rfl ?_
  refine g_getr (pc := 21) (v := .ref (Δ.ba + 1)) (dd d_Eng_init 11 rfl) f_Eng_12 ⟨by decide, rfl⟩ rfl (by rfl) ?_
  refine g_callI (pc := 24) (dd d_Eng_init 12 rfl) ci_Eng_18 (ec_Prd7 F4) rfl (by rw [hk]; decide) (Nat.le_of_ble_eq_true rfl) (by rw [hR]; exact ⟨by decide, by decide⟩) rfl (by omega) ?_
  have F5 := fr_Prd7 (Δ := Δ) F4
  refine g_putR (pc := 27) (j := 1) (dd d_Eng_init 13 rfl) f_Eng_21 (Or.inr ⟨fi_Eng_1, rfl⟩) ⟨by decide, rfl⟩ rfl (fun _ => rfl) (fun _ => rfl) ?_
  have F6 := fR (b := 0) (j := 1) (v := .ref (Δ.ba + 7)) F5 (by decide)
  refine g_aload_n (pc := 30) (dd d_Eng_init 14 rfl) rfl ?_
  refine g_new (pc := 31) (dd d_Eng_init 15 rfl) nw_Eng_25 rfl (F6 _ (by decide)) (by omega) (by rw [hR]; decide) (by rw [hR]; decide) ?_
  have F7 := fS F6
  refine g_dup (pc := 34) (dd d_Eng_init 16 rfl) rfl ?_
  refine g_aload_n (pc := 35) (dd d_Eng_init 17 rfl) rfl ?_
  refine g_getr (pc := 36) (v := .ref (Δ.ba + 1)) (dd d_Eng_init 18 rfl) f_Eng_12 ⟨by decide, rfl⟩ rfl (by rfl) ?_
  refine g_callI (pc := 39) (dd d_Eng_init 19 rfl) ci_Eng_27 (ec_Img15 F7) rfl (by rw [hk]; decide) (Nat.le_of_ble_eq_true rfl) (by rw [hR]; exact ⟨by decide, by decide⟩) rfl (by omega) ?_
  have F8 := fr_Img15 (Δ := Δ) F7
  refine g_putR (pc := 42) (j := 2) (dd d_Eng_init 20 rfl) f_Eng_28 (Or.inr ⟨fi_Eng_2, rfl⟩) ⟨by decide, rfl⟩ rfl (fun _ => rfl) (fun _ => rfl) ?_
  have F9 := fR (b := 0) (j := 2) (v := .ref (Δ.ba + 15)) F8 (by decide)
  refine g_aload_n (pc := 45) (dd d_Eng_init 21 rfl) rfl ?_
  refine g_new (pc := 46) (dd d_Eng_init 22 rfl) nw_Eng_32 rfl (F9 _ (by decide)) (by omega) (by rw [hR]; decide) (by rw [hR]; decide) ?_
  have F10 := fS F9
  refine g_dup (pc := 49) (dd d_Eng_init 23 rfl) rfl ?_
  refine g_callIN (pc := 50) (dd d_Eng_init 24 rfl) ci_Eng_34 (ec_Stp35 F10) rfl (by rw [hk]; decide) (Nat.le_of_ble_eq_true rfl) (by rw [hR]; exact ⟨by decide, by decide⟩) rfl (by omega) ?_
  have F11 := fr_Stp35 (Δ := Δ) F10
  refine g_putR (pc := 53) (j := 3) (dd d_Eng_init 25 rfl) f_Eng_35 (Or.inr ⟨fi_Eng_3, rfl⟩) ⟨by decide, rfl⟩ rfl (fun _ => rfl) (fun _ => rfl) ?_
  have F12 := fR (b := 0) (j := 3) (v := .ref (Δ.ba + 35)) F11 (by decide)
  refine g_aload_n (pc := 56) (dd d_Eng_init 26 rfl) rfl ?_
  refine g_new (pc := 57) (dd d_Eng_init 27 rfl) nw_Eng_39 rfl (F12 _ (by decide)) (by omega) (by rw [hR]; decide) (by rw [hR]; decide) ?_
  have F13 := fS F12
  refine g_dup (pc := 60) (dd d_Eng_init 28 rfl) rfl ?_
  refine g_callIN (pc := 61) (dd d_Eng_init 29 rfl) ci_Eng_41 (ec_Cmp40 F13) rfl (by rw [hk]; decide) (Nat.le_of_ble_eq_true rfl) (by rw [hR]; exact ⟨by decide, by decide⟩) rfl (by omega) ?_
  have F14 := fr_Cmp40 (Δ := Δ) F13
  refine g_putR (pc := 64) (j := 4) (dd d_Eng_init 30 rfl) f_Eng_42 (Or.inr ⟨fi_Eng_4, rfl⟩) ⟨by decide, rfl⟩ rfl (fun _ => rfl) (fun _ => rfl) ?_
  have F15 := fR (b := 0) (j := 4) (v := .ref (Δ.ba + 40)) F14 (by decide)
  refine g_aload_n (pc := 67) (dd d_Eng_init 31 rfl) rfl ?_
  refine g_new (pc := 68) (dd d_Eng_init 32 rfl) nw_Eng_46 rfl (F15 _ (by decide)) (by omega) (by rw [hR]; decide) (by rw [hR]; decide) ?_
  have F16 := fS F15
  refine g_dup (pc := 71) (dd d_Eng_init 33 rfl) rfl ?_
  refine g_callI (pc := 72) (dd d_Eng_init 34 rfl) ci_Eng_48 (ec_Pol48 F16) rfl (by rw [hk]; decide) (Nat.le_of_ble_eq_true rfl) (by rw [hR]; exact ⟨by decide, by decide⟩) rfl (by omega) ?_
  have F17 := fr_Pol48 (Δ := Δ) F16
  refine g_putR (pc := 75) (j := 5) (dd d_Eng_init 35 rfl) f_Eng_49 (Or.inr ⟨fi_Eng_5, rfl⟩) ⟨by decide, rfl⟩ rfl (fun _ => rfl) (fun _ => rfl) ?_
  have F18 := fR (b := 0) (j := 5) (v := .ref (Δ.ba + 48)) F17 (by decide)
  refine g_aload_n (pc := 78) (dd d_Eng_init 36 rfl) rfl ?_
  refine g_new (pc := 79) (dd d_Eng_init 37 rfl) nw_Eng_53 rfl (F18 _ (by decide)) (by omega) (by rw [hR]; decide) (by rw [hR]; decide) ?_
  have F19 := fS F18
  refine g_dup (pc := 82) (dd d_Eng_init 38 rfl) rfl ?_
  refine g_callI (pc := 83) (dd d_Eng_init 39 rfl) ci_Eng_55 (ec_Sbd55 F19) rfl (by rw [hk]; decide) (Nat.le_of_ble_eq_true rfl) (by rw [hR]; exact ⟨by decide, by decide⟩) rfl (by omega) ?_
  have F20 := fr_Sbd55 (Δ := Δ) F19
  refine g_putR (pc := 86) (j := 6) (dd d_Eng_init 40 rfl) f_Eng_56 (Or.inr ⟨fi_Eng_6, rfl⟩) ⟨by decide, rfl⟩ rfl (fun _ => rfl) (fun _ => rfl) ?_
  have F21 := fR (b := 0) (j := 6) (v := .ref (Δ.ba + 55)) F20 (by decide)
  refine g_aload_n (pc := 89) (dd d_Eng_init 41 rfl) rfl ?_
  refine g_new (pc := 90) (dd d_Eng_init 42 rfl) nw_Eng_46 rfl (F21 _ (by decide)) (by omega) (by rw [hR]; decide) (by rw [hR]; decide) ?_
  have F22 := fS F21
  refine g_dup (pc := 93) (dd d_Eng_init 43 rfl) rfl ?_
  refine g_callI (pc := 94) (dd d_Eng_init 44 rfl) ci_Eng_48 (ec_Pol57 F22) rfl (by rw [hk]; decide) (Nat.le_of_ble_eq_true rfl) (by rw [hR]; exact ⟨by decide, by decide⟩) rfl (by omega) ?_
  have F23 := fr_Pol57 (Δ := Δ) F22
  refine g_putR (pc := 97) (j := 7) (dd d_Eng_init 45 rfl) f_Eng_60 (Or.inl fm_Eng_7) ⟨by decide, rfl⟩ rfl (fun _ => rfl) (fun _ => rfl) ?_
  have F24 := fR (b := 0) (j := 7) (v := .ref (Δ.ba + 57)) F23 (by decide)
  refine g_aload_n (pc := 100) (dd d_Eng_init 46 rfl) rfl ?_
  refine g_new (pc := 101) (dd d_Eng_init 47 rfl) nw_Eng_63 rfl (F24 _ (by decide)) (by omega) (by rw [hR]; decide) (by rw [hR]; decide) ?_
  have F25 := fS F24
  refine g_dup (pc := 104) (dd d_Eng_init 48 rfl) rfl ?_
  refine g_callI (pc := 105) (dd d_Eng_init 49 rfl) ci_Eng_65 (ec_Mch64 F25) rfl (by rw [hk]; decide) (Nat.le_of_ble_eq_true rfl) (by rw [hR]; exact ⟨by decide, by decide⟩) rfl (by omega) ?_
  have F26 := fr_Mch64 (Δ := Δ) F25
  refine g_putR (pc := 108) (j := 8) (dd d_Eng_init 50 rfl) f_Eng_66 (Or.inl fm_Eng_8) ⟨by decide, rfl⟩ rfl (fun _ => rfl) (fun _ => rfl) ?_
  have F27 := fR (b := 0) (j := 8) (v := .ref (Δ.ba + 64)) F26 (by decide)
  refine g_aload_n (pc := 111) (dd d_Eng_init 51 rfl) rfl ?_
  refine g_new (pc := 112) (dd d_Eng_init 52 rfl) nw_Eng_63 rfl (F27 _ (by decide)) (by omega) (by rw [hR]; decide) (by rw [hR]; decide) ?_
  have F28 := fS F27
  refine g_dup (pc := 115) (dd d_Eng_init 53 rfl) rfl ?_
  refine g_callI (pc := 116) (dd d_Eng_init 54 rfl) ci_Eng_65 (ec_Mch83 F28) rfl (by rw [hk]; decide) (Nat.le_of_ble_eq_true rfl) (by rw [hR]; exact ⟨by decide, by decide⟩) rfl (by omega) ?_
  have F29 := fr_Mch83 (Δ := Δ) F28
  refine g_putR (pc := 119) (j := 9) (dd d_Eng_init 55 rfl) f_Eng_70 (Or.inl fm_Eng_9) ⟨by decide, rfl⟩ rfl (fun _ => rfl) (fun _ => rfl) ?_
  have F30 := fR (b := 0) (j := 9) (v := .ref (Δ.ba + 83)) F29 (by decide)
  exact g_vret (pc := 122) rfl (dd d_Eng_init 56 rfl) hT
