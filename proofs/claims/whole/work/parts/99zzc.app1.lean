/-! the line as a list of signs; a sign is added -/
section ERet2
variable {Δ : Dx} {mi : MI} {Γ : Cx} {k c : Nat} {σ : St} {pc : Nat} {lv : List (Option Value)} {rf : St → Option Value} {P : St → Prop} {mc ms : Nat}
theorem g_nretE {v : Int32} {ty : FieldType} (hm : mi.2.2.2 = some ty) (hv : narrow ty (.int v) = .int v) (hdg : decode mi.2.1 pc = .ok (.ireturn, 1)) (ht : TgE Δ Γ rf P mc ms) (hk : k ≤ mc) (hc : c ≤ ms) (hP : P σ) (hr : rf σ = some (.int v)) : GG Δ mi Γ NN k c σ pc lv [.int v] := g_more hk hc fun ok H locs ls hP2 hS hl => by
  rw [show Γ.Q = _ from ht]
  have hlk : Γ.meth.locks = false := ok.2.2.2.2.2.2.1
  exact W.zret ok.1 ok.2.1 (ok.2.2.2.2.2.1.trans hm) hv (fun t hT hW => ⟨σ, hP, by rw [hr], by rw [hT]; exact hP2, hS.F hT⟩) hS.2.2 hdg hlk
end ERet2
/-- the line holds the signs l -/
def Bk (Δ : Dx) (σ : St) (l : List Int32) : Prop := DYX Δ σ.2.2 ∧ Vb σ ∧ σ.1 55 1 = 0 ∧ σ.1 55 3 = nI l.length ∧ l.length ≤ vL σ ∧ ∀ i, i < l.length → vF σ i = l.getD i 0
/-- it was σ; now it holds l -/
def lAP (Δ : Dx) (σ : St) (l : List Int32) (x : St) : Prop := Bf σ x ∧ Bk Δ x l ∧ pot x = min (pot σ) (potL l.length)
theorem lAP_of {Δ : Dx} {σ x y : St} {l l' : List Int32} (hB : Bk Δ σ l) (hG : Gw Δ σ l'.length x) (hbf : Bf x y) (hD : DYX Δ y.2.2) (hV : Vb y) (hL : vL y = vL x) (hc : y.1 55 3 = nI l'.length) (hF : ∀ i, i < l'.length → vF y i = l'.getD i 0) : lAP Δ σ l' y := by
  obtain ⟨g1, g2, g3, g4, g5, g6, g7⟩ := hG
  refine ⟨g1.tr hbf, ⟨hD, hV, ?_, hc, by rw [hL]; exact g4, hF⟩, ?_⟩
  · rw [hbf.2.1 1 (by decide) (by decide), g5]
    exact hB.2.2.1
  · unfold pot at g7 ⊢
    rw [hL]
    exact g7
theorem cst_tr {Δ : Dx} {σ x : St} {l : List Int32} {n : Nat} (h : lAP Δ σ l x) (hn : l.length ≤ n) : cst σ l.length + cst x n = cst σ n := by
  have h1 := h.2.2
  have h2 := potL_a hn
  unfold cst
  omega
theorem cst_le {σ : St} {n : Nat} : cst σ n ≤ 2 := by
  unfold cst pot
  have : potL (vL σ) ≤ 2 := by
    unfold potL
    split
    · omega
    · split <;> omega
  omega
theorem lAP.tr {Δ : Dx} {σ x y : St} {l l' : List Int32} (h : lAP Δ σ l x) (g : lAP Δ x l' y) (hn : l.length ≤ l'.length) : lAP Δ σ l' y := by
  refine ⟨h.1.tr g.1, g.2.1, ?_⟩
  have h1 := h.2.2
  have h2 := g.2.2
  have h3 := potL_a hn
  omega
theorem stI_o {σ : St} {a b k : Nat} {x : Int32} (h : b ≠ a) : (stI σ a k x).1 b = σ.1 b := if_neg h
theorem stI_vF {σ : St} {k : Nat} {x : Int32} : vF (stI σ 55 k x) = vF σ := by
  unfold vF
  rw [show (stI σ 55 k x).1 56 = σ.1 56 from stI_o (by decide)]
  rfl
theorem stI_Bf {σ : St} {k : Nat} {x : Int32} (hk : k = 2 ∨ k = 3) : Bf σ (stI σ 55 k x) := by
  refine ⟨fun a h _ => if_neg h, fun j h1 h2 => ?_, fun _ _ => rfl, fun _ _ _ => rfl, fun _ _ => rfl⟩
  show upA σ.1 55 (upd (σ.1 55) k x) 55 j = _
  rw [upA_s]
  exact if_neg (by omega)
theorem stI_Vb {σ : St} {k : Nat} {x : Int32} (h : Vb σ) : Vb (stI σ 55 k x) := by
  unfold Vb
  rw [show (stI σ 55 k x).1 56 = σ.1 56 from stI_o (by decide)]
  exact h
theorem stI_s {σ : St} {a k : Nat} {x : Int32} : (stI σ a k x).1 a k = x := by
  show upA σ.1 a (upd (σ.1 a) k x) a k = x
  rw [upA_s]
  exact if_pos rfl
theorem ev_isLat {Δ : Dx} {σ : St} (hc : σ.1 55 1 = 0) : EvE Δ 0 m_Asb_isLatin1 [.ref (Δ.ba + 55)] σ (fun _ => some (.int 1)) (fun x => x = σ) 0 0 := by
  refine evE_of (by decide) (Nat.le_of_ble_eq_true rfl) (fun Γ hk hR hT => ?_)
  refine g_gets (pc := 0) (dd d_Asb_isLatin1 0 rfl) cs_1 cs_2 cs_3 fs_Asb_18 ?_
  refine g_ifeq (pc := 3) (tgt := 17) (dd d_Asb_isLatin1 1 rfl) (by decide) (fun q => absurd q (by decide)) (fun _ => ?_)
  refine g_aload_n (pc := 6) (dd d_Asb_isLatin1 2 rfl) rfl ?_
  refine g_get (pc := 7) (a := 55) (dd d_Asb_isLatin1 3 rfl) f_Asb_22 o55 (fv_coder hc) ?_
  refine g_ifne (pc := 10) (tgt := 17) (dd d_Asb_isLatin1 4 rfl) (by decide) (fun q => absurd rfl q) (fun _ => ?_)
  refine g_iconst (pc := 13) (v := 1) (dd d_Asb_isLatin1 5 rfl) (by decide) ?_
  refine g_goto (pc := 14) (tgt := 18) (dd d_Asb_isLatin1 6 rfl) (by decide) ?_
  exact g_nretE (pc := 18) rfl (by decide) (dd d_Asb_isLatin1 8 rfl) hT (Nat.le_refl _) (Nat.le_refl _) rfl rfl
theorem ev_canEncC {Δ : Dx} {n : Nat} {σ : St} {x : Int32} (h : ¬ (255 : Int32) < x) : EvN Δ 0 m_Lat_canEncode_C n [.int x] σ (some (.int 1)) n σ 0 0 := by
  refine ev_of (by decide) (Nat.le_of_ble_eq_true rfl) (fun Γ hk hR hT => ?_)
  refine g_iload_n (pc := 0) (dd d_Lat_canEncode_C 0 rfl) rfl ?_
  refine g_sipush (pc := 1) (v := 255) (dd d_Lat_canEncode_C 1 rfl) (by decide) ?_
  refine g_icmpgt (pc := 4) (tgt := 11) (dd d_Lat_canEncode_C 2 rfl) (by decide) (fun q => absurd q h) (fun _ => ?_)
  refine g_iconst (pc := 7) (v := 1) (dd d_Lat_canEncode_C 3 rfl) (by decide) ?_
  refine g_goto (pc := 8) (tgt := 12) (dd d_Lat_canEncode_C 4 rfl) (by decide) ?_
  exact g_zret (pc := 12) rfl (Or.inr rfl) (dd d_Lat_canEncode_C 6 rfl) hT
theorem getD_app {l l' : List Int32} {i : Nat} : (l ++ l').getD i 0 = if i < l.length then l.getD i 0 else l'.getD (i - l.length) 0 := by
  by_cases h : i < l.length
  · rw [if_pos h, List.getD_eq_getElem?_getD, List.getElem?_append_left h, ← List.getD_eq_getElem?_getD]
  · rw [if_neg h, List.getD_eq_getElem?_getD, List.getElem?_append_right (by omega), ← List.getD_eq_getElem?_getD]
theorem fv_count {σ : St} {x : Int32} (h : σ.1 55 3 = x) : fv 11 σ 55 3 = .int x := by
  show Value.int (σ.1 55 3) = .int x
  rw [h]
/-- append(char) -/
theorem ev_appC {Δ : Dx} {σ : St} {l : List Int32} {ch : Int32} (hB : Bk Δ σ l) (hl : l.length + 1 ≤ 70) (h0 : ¬ (255 : Int32) < ch) (h1 : vp_nar .byte ch = ch) : EvE Δ 4 m_Asb_append_C [.ref (Δ.ba + 55), .int ch] σ (fun _ => some (.ref (Δ.ba + 55))) (lAP Δ σ (l ++ [ch])) (cst σ (l ++ [ch]).length) (70 * cst σ (l ++ [ch]).length) := by
  obtain ⟨hD, hV, hc, hn, hle, hF⟩ := id hB
  have hL := DYX_L hD
  have hlen : (l ++ [ch]).length = l.length + 1 := List.length_append
  refine evE_of (by decide) (Nat.le_of_ble_eq_true rfl) (fun Γ hk hR hT => ?_)
  refine g_aload_n (pc := 0) (dd d_Asb_append_C 0 rfl) rfl ?_
  refine g_aload_n (pc := 1) (dd d_Asb_append_C 1 rfl) rfl ?_
  refine g_get (pc := 2) (a := 55) (dd d_Asb_append_C 2 rfl) f_Asb_79 o55 (fv_count hn) ?_
  refine g_iconst (pc := 5) (v := nI 1) (dd d_Asb_append_C 3 rfl) (by decide) ?_
  refine g_iadd (pc := 6) (dd d_Asb_append_C 4 rfl) ?_
  rw [nI_add, ← hlen]
  refine g_callPE (pc := 7) (dd d_Asb_append_C 5 rfl) p_Asb_100 (ev_ensure (mn := (l ++ [ch]).length) hD hV hc (by omega) (by omega)) rfl (by rw [hk]; decide) (Nat.le_of_ble_eq_true rfl) ⟨by rw [hR]; exact Nat.le_of_eq (Nat.zero_add _), by rw [hR]; exact Nat.le_of_eq (Nat.zero_add _)⟩ rfl (fun x hx => ?_)
  obtain ⟨g1, g2, g3, g4, g5, g6, g7⟩ := id hx
  have xc : x.1 55 1 = 0 := by rw [g5]; exact hc
  have xn : x.1 55 3 = nI l.length := by rw [g5]; exact hn
  refine g_aload_n (pc := 10) (dd d_Asb_append_C 6 rfl) rfl ?_
  refine g_callUE (pc := 11) (dd d_Asb_append_C 7 rfl) u_Asb_83 (ev_isLat xc) rfl (by rw [hk]; decide) (Nat.le_of_ble_eq_true rfl) ⟨by rw [hR]; show 0 + cst σ (l ++ [ch]).length + 0 ≤ cst σ (l ++ [ch]).length; omega, by rw [hR]; show 0 + 70 * cst σ (l ++ [ch]).length + 0 ≤ 70 * cst σ (l ++ [ch]).length; omega⟩ rfl (fun y hy => ?_)
  subst hy
  refine g_ifeq (pc := 14) (tgt := 45) (dd d_Asb_append_C 8 rfl) (by decide) (fun q => absurd q (by decide)) (fun _ => ?_)
  refine g_iload_n (pc := 17) (dd d_Asb_append_C 9 rfl) rfl ?_
  refine g_callS (pc := 18) (dd d_Asb_append_C 10 rfl) s_Asb_191 (ev_canEncC h0) rfl (by rw [hk]; decide) (Nat.le_of_ble_eq_true rfl) ⟨by rw [hR]; show 0 + cst σ (l ++ [ch]).length + 0 + 0 ≤ cst σ (l ++ [ch]).length; omega, by rw [hR]; show 0 + 70 * cst σ (l ++ [ch]).length + 0 + 0 ≤ 70 * cst σ (l ++ [ch]).length; omega⟩ rfl ?_
  refine g_ifeq (pc := 21) (tgt := 45) (dd d_Asb_append_C 11 rfl) (by decide) (fun q => absurd q (by decide)) (fun _ => ?_)
  refine g_aload_n (pc := 24) (dd d_Asb_append_C 12 rfl) rfl ?_
  refine g_getr (pc := 25) (a := 55) (dd d_Asb_append_C 13 rfl) f_Asb_15 o55 rfl (DYX_v g2) ?_
  refine g_aload_n (pc := 28) (dd d_Asb_append_C 14 rfl) rfl ?_
  refine g_dup (pc := 29) (dd d_Asb_append_C 15 rfl) rfl ?_
  refine g_get (pc := 30) (a := 55) (dd d_Asb_append_C 16 rfl) f_Asb_79 o55 (fv_count xn) ?_
  refine g_dup_x1 (pc := 33) (dd d_Asb_append_C 17 rfl) rfl rfl ?_
  refine g_iconst (pc := 34) (v := nI 1) (dd d_Asb_append_C 18 rfl) (by decide) ?_
  refine g_iadd (pc := 35) (dd d_Asb_append_C 19 rfl) ?_
  rw [nI_add, ← hlen]
  refine g_puti (pc := 36) (a := 55) (j := 3) (dd d_Asb_append_C 20 rfl) f_Asb_79 fm_Sbd_3 o55 rfl ?_
  refine g_iload_n (pc := 39) (dd d_Asb_append_C 21 rfl) rfl ?_
  refine g_i2b (pc := 40) (dd d_Asb_append_C 22 rfl) ?_
  have hb : ch.toInt8.toInt32 = ch := h1
  rw [hb]
  refine g_bastV (pc := 41) (dd d_Asb_append_C 23 rfl) rfl (stI_Vb g3) (nI_in (by show l.length < vL y; omega) (by show vL y < 2 ^ 31; have := DYX_L g2; omega)) ?_
  rw [nI_clamp (by omega), h1, stI_vF]
  refine g_goto (pc := 42) (tgt := 75) (dd d_Asb_append_C 24 rfl) (by decide) ?_
  refine g_aload_n (pc := 75) (dd d_Asb_append_C 41 rfl) rfl ?_
  have hf : ∀ k, fits .byte (.int (upd (vF y) l.length ch k)) = true := upd_fit (vF_fit g3) (by rw [← h1]; exact fit_nar _)
  refine g_aretE (pc := 76) rfl (Or.inl ⟨_, rfl⟩) (dd d_Asb_append_C 42 rfl) hT (by show 0 + cst σ (l ++ [ch]).length + 0 + 0 ≤ _; omega) (by show 0 + 70 * cst σ (l ++ [ch]).length + 0 + 0 ≤ _; omega) (lAP_of hB hx ((stI_Bf (Or.inr rfl)).tr Bf.vS) (by rw [vS_3]; exact g2) (vS_b hf (stI_Vb g3)) vS_L (by rw [vS_1 (by decide), stI_s]) (fun i hi => ?_)) rfl
  rw [vS_F hf, getD_app]
  unfold upd
  by_cases h : i < l.length
  · rw [if_pos h, if_neg (by omega), g6 i (by omega)]
    exact hF i h
  · have e : i = l.length := by omega
    rw [if_neg h, if_pos e, e, Nat.sub_self]
    rfl
theorem ev_SappC {Δ : Dx} {σ : St} {l : List Int32} {ch : Int32} (hB : Bk Δ σ l) (hl : l.length + 1 ≤ 70) (h0 : ¬ (255 : Int32) < ch) (h1 : vp_nar .byte ch = ch) : EvE Δ 5 m_Sbd_append_C [.ref (Δ.ba + 55), .int ch] σ (fun _ => some (.ref (Δ.ba + 55))) (lAP Δ σ (l ++ [ch])) (cst σ (l ++ [ch]).length) (70 * cst σ (l ++ [ch]).length) := by
  refine evE_of (by decide) (Nat.le_of_ble_eq_true rfl) (fun Γ hk hR hT => ?_)
  refine g_aload_n (pc := 0) (dd d_Sbd_append_C 0 rfl) rfl ?_
  refine g_iload_n (pc := 1) (dd d_Sbd_append_C 1 rfl) rfl ?_
  refine g_callQE (pc := 2) (dd d_Sbd_append_C 2 rfl) q_Sbd_50 (ev_appC hB hl h0 h1) rfl (by rw [hk]; decide) (Nat.le_of_ble_eq_true rfl) ⟨by rw [hR]; exact Nat.le_of_eq (Nat.zero_add _), by rw [hR]; exact Nat.le_of_eq (Nat.zero_add _)⟩ rfl (fun x hx => ?_)
  refine g_pop (pc := 5) (dd d_Sbd_append_C 3 rfl) rfl ?_
  refine g_aload_n (pc := 6) (dd d_Sbd_append_C 4 rfl) rfl ?_
  exact g_aretE (pc := 7) rfl (Or.inl ⟨_, rfl⟩) (dd d_Sbd_append_C 5 rfl) hT (Nat.le_of_eq (Nat.zero_add _)) (Nat.le_of_eq (Nat.zero_add _)) hx rfl
