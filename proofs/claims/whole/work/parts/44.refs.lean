/-! calls of the class that change refs: policy, image, swap -/
def setR (X : Lx) (a j : Nat) (v : Value) : Lx := (X.1, upA X.2 a (updV (X.2 a) j v))
theorem setR_s {X : Lx} {a j : Nat} {v : Value} : (setR X a j v).2 a j = v := by
  show upA X.2 a (updV (X.2 a) j v) a j = v
  unfold upA updV
  rw [if_pos rfl, if_pos rfl]
theorem setR_o {X : Lx} {a j b i : Nat} {v : Value} (h : ¬ (b = a ∧ i = j)) : (setR X a j v).2 b i = X.2 b i := by
  show upA X.2 a (updV (X.2 a) j v) b i = X.2 b i
  unfold upA updV
  by_cases hb : b = a
  · subst hb
    rw [if_pos rfl, if_neg (fun e => h ⟨rfl, e⟩)]
  · rw [if_neg hb]
theorem g_aret {Δ : Dx} {mi : MI} {Γ : Cx} {n k c : Nat} {σ : St} {pc : Nat} {lv : List (Option Value)} {q : Nat} {nm : String} (hm : mi.2.2.2 = some (.object nm)) (hdg : decode mi.2.1 pc = .ok (.areturn, 1)) (ht : Tg Δ Γ (some (.ref q)) n σ k c) : GG Δ mi Γ n k c σ pc lv [.ref q] := fun ok H locs ls hP hS hl => by
  rw [show Γ.Q = _ from ht]
  have hlk : Γ.meth.locks = false := ok.2.2.2.2.2.2.1
  exact W.aret ok.1 ok.2.1 (ok.2.2.2.2.2.1.trans hm) (Or.inl ⟨nm, rfl⟩) (Or.inr ⟨q, rfl⟩) (fun t hT hW => ⟨rfl, by rw [hT]; exact hP, hS.F hT⟩) hS.2.2 hdg hlk
theorem dy_setR {Δ : Dx} {X : Lx} {a j : Nat} {v : Value} (h : DYX Δ X.2) (ha : a < 55) : DYX Δ (setR X a j v).2 := by
  have e : ∀ b, 55 ≤ b → (setR X a j v).2 b = X.2 b := fun b hb => by
    show upA X.2 a _ b = _
    unfold upA
    rw [if_neg (by omega)]
  exact DYX_c (e 55 (by decide)) (e 201 (by decide)) (e 203 (by decide)) h
theorem ex_rl {Δ : Dx} {X : Lx} {rl hd ot pt it q : Nat} (hX : EX Δ X rl hd ot pt it) (hq : isPol q) : EX Δ (setR X 0 7 (.ref (Δ.ba + q))) q hd ot pt it := by
  refine ⟨fun z hz => ?_, hX.kx, setR_s, hq, (setR_o (by decide)).trans hX.r_hd, hX.i_hd, (setR_o (by decide)).trans hX.r_ot, hX.i_ot, (setR_o (by decide)).trans hX.r_pt, hX.i_pt, (setR_o (by decide)).trans hX.r_it, hX.i_it, dy_setR hX.dy (by decide)⟩
  rw [setR_o ((show ∀ z ∈ fixR, ¬ (z.1 = 0 ∧ z.2.1 = 7) by decide) z hz)]
  exact hX.fix z hz
theorem ex_hd {Δ : Dx} {X : Lx} {rl hd ot pt it q : Nat} (hX : EX Δ X rl hd ot pt it) (hq : isMch q) : EX Δ (setR X 0 8 (.ref (Δ.ba + q))) rl q ot pt it := by
  refine ⟨fun z hz => ?_, hX.kx, (setR_o (by decide)).trans hX.r_rl, hX.i_rl, setR_s, hq, (setR_o (by decide)).trans hX.r_ot, hX.i_ot, (setR_o (by decide)).trans hX.r_pt, hX.i_pt, (setR_o (by decide)).trans hX.r_it, hX.i_it, dy_setR hX.dy (by decide)⟩
  rw [setR_o ((show ∀ z ∈ fixR, ¬ (z.1 = 0 ∧ z.2.1 = 8) by decide) z hz)]
  exact hX.fix z hz
theorem ex_ot {Δ : Dx} {X : Lx} {rl hd ot pt it q : Nat} (hX : EX Δ X rl hd ot pt it) (hq : isMch q) : EX Δ (setR X 0 9 (.ref (Δ.ba + q))) rl hd q pt it := by
  refine ⟨fun z hz => ?_, hX.kx, (setR_o (by decide)).trans hX.r_rl, hX.i_rl, (setR_o (by decide)).trans hX.r_hd, hX.i_hd, setR_s, hq, (setR_o (by decide)).trans hX.r_pt, hX.i_pt, (setR_o (by decide)).trans hX.r_it, hX.i_it, dy_setR hX.dy (by decide)⟩
  rw [setR_o ((show ∀ z ∈ fixR, ¬ (z.1 = 0 ∧ z.2.1 = 9) by decide) z hz)]
  exact hX.fix z hz
theorem ex_pt {Δ : Dx} {X : Lx} {rl hd ot pt it q : Nat} (hX : EX Δ X rl hd ot pt it) (hq : isPol q) : EX Δ (setR X 7 1 (.ref (Δ.ba + q))) rl hd ot q it := by
  refine ⟨fun z hz => ?_, hX.kx, (setR_o (by decide)).trans hX.r_rl, hX.i_rl, (setR_o (by decide)).trans hX.r_hd, hX.i_hd, (setR_o (by decide)).trans hX.r_ot, hX.i_ot, setR_s, hq, (setR_o (by decide)).trans hX.r_it, hX.i_it, dy_setR hX.dy (by decide)⟩
  rw [setR_o ((show ∀ z ∈ fixR, ¬ (z.1 = 7 ∧ z.2.1 = 1) by decide) z hz)]
  exact hX.fix z hz
theorem ex_it {Δ : Dx} {X : Lx} {rl hd ot pt it q : Nat} (hX : EX Δ X rl hd ot pt it) (hq : isMch q) : EX Δ (setR X 15 1 (.ref (Δ.ba + q))) rl hd ot pt q := by
  refine ⟨fun z hz => ?_, hX.kx, (setR_o (by decide)).trans hX.r_rl, hX.i_rl, (setR_o (by decide)).trans hX.r_hd, hX.i_hd, (setR_o (by decide)).trans hX.r_ot, hX.i_ot, (setR_o (by decide)).trans hX.r_pt, hX.i_pt, setR_s, hq, dy_setR hX.dy (by decide)⟩
  rw [setR_o ((show ∀ z ∈ fixR, ¬ (z.1 = 15 ∧ z.2.1 = 1) by decide) z hz)]
  exact hX.fix z hz
theorem mx_setR {Δ : Dx} {X : Lx} {a j : Nat} {v : Value} (h : MX Δ X) (ha : a ≠ MO) : MX Δ (setR X a j v) := by
  have e : (setR X a j v).2 MO = X.2 MO := by
    show upA X.2 a _ MO = _
    unfold upA
    rw [if_neg (fun q => ha q.symm)]
  have e1 : (setR X a j v).1 = X.1 := rfl
  unfold MX
  rw [e, e1]
  exact h
theorem ef_Prd_exchange {Δ : Dx} {X : Lx} {rl hd ot pt it : Nat} (hX : EX Δ X rl hd ot pt it) {I : IM} {q : Nat} : Ev Δ 0 m_Prd_exchange [.ref (Δ.ba + 7), .ref (Δ.ba + q)] (I, X) (some (.ref (Δ.ba + pt))) (I, setR X 7 1 (.ref (Δ.ba + q))) := by
  refine ev_of (by decide) (Nat.le_of_ble_eq_true rfl) (fun Γ hk hR hT => ?_)
  change GG Δ m_Prd_exchange Γ NN 0 0 (I, X) 0 [some (.ref (Δ.ba + 7)), some (.ref (Δ.ba + q)), none] []
  refine g_aload_n (pc := 0) (dd d_Prd_exchange 0 rfl) rfl ?_
  refine g_getr (pc := 1) (dd d_Prd_exchange 1 rfl) f_Prd_18 oc_Prd rfl hX.r_pt ?_
  refine g_astore_n (pc := 4) (dd d_Prd_exchange 2 rfl) (by decide) ?_
  refine g_aload_n (pc := 5) (dd d_Prd_exchange 3 rfl) rfl ?_
  refine g_aload_n (pc := 6) (dd d_Prd_exchange 4 rfl) rfl ?_
  refine g_putR (pc := 7) (j := 1) (dd d_Prd_exchange 5 rfl) f_Prd_18 (Or.inl fm_Prd_1) oc_Prd rfl (fun _ => rfl) (fun _ => rfl) ?_
  refine g_aload_n (pc := 10) (dd d_Prd_exchange 6 rfl) rfl ?_
  exact g_aret (pc := 11) rfl (dd d_Prd_exchange 7 rfl) hT
theorem ef_Img_exchange {Δ : Dx} {X : Lx} {rl hd ot pt it : Nat} (hX : EX Δ X rl hd ot pt it) {I : IM} {q : Nat} : Ev Δ 0 m_Img_exchange [.ref (Δ.ba + 15), .ref (Δ.ba + q)] (I, X) (some (.ref (Δ.ba + it))) (I, setR X 15 1 (.ref (Δ.ba + q))) := by
  refine ev_of (by decide) (Nat.le_of_ble_eq_true rfl) (fun Γ hk hR hT => ?_)
  change GG Δ m_Img_exchange Γ NN 0 0 (I, X) 0 [some (.ref (Δ.ba + 15)), some (.ref (Δ.ba + q)), none] []
  refine g_aload_n (pc := 0) (dd d_Img_exchange 0 rfl) rfl ?_
  refine g_getr (pc := 1) (dd d_Img_exchange 1 rfl) f_Img_18 oc_Img rfl hX.r_it ?_
  refine g_astore_n (pc := 4) (dd d_Img_exchange 2 rfl) (by decide) ?_
  refine g_aload_n (pc := 5) (dd d_Img_exchange 3 rfl) rfl ?_
  refine g_aload_n (pc := 6) (dd d_Img_exchange 4 rfl) rfl ?_
  refine g_putR (pc := 7) (j := 1) (dd d_Img_exchange 5 rfl) f_Img_18 (Or.inl fm_Img_1) oc_Img rfl (fun _ => rfl) (fun _ => rfl) ?_
  refine g_aload_n (pc := 10) (dd d_Img_exchange 6 rfl) rfl ?_
  exact g_aret (pc := 11) rfl (dd d_Img_exchange 7 rfl) hT
/-- policy: the refs behind a text without a fault -/
def polX (Δ : Dx) (X : Lx) (rl pt : Nat) : Lx := setR (setR X 7 1 (.ref (Δ.ba + rl))) 0 7 (.ref (Δ.ba + pt))
theorem ex_polX {Δ : Dx} {X : Lx} {rl hd ot pt it : Nat} (hX : EX Δ X rl hd ot pt it) : EX Δ (polX Δ X rl pt) pt hd ot rl it := ex_rl (ex_pt hX hX.i_rl) hX.i_pt
def f_Eng_policy (n hd ot pt : Nat) (J : JM) (I : IM) : Option (Int32 × IM) := Option.bind (f_Prd_read n pt J I) fun v => if v.1 = (-1 : Int32) then Option.bind (f_Mch_forgetAnswers hd v.2) fun I1 => Option.bind (f_Mch_forgetAnswers ot I1) fun I2 => some (-1, I2) else some (v.1, v.2)
theorem ef_Eng_policy {Δ : Dx} {X : Lx} {rl hd ot pt it : Nat} (hX : EX Δ X rl hd ot pt it) {n : Nat} {I : IM} {r : Int32 × IM} (h : f_Eng_policy n hd ot pt X.1 I = some r) : Ev Δ 75 m_Eng_policy [.ref (Δ.ba + 0)] (I, X) (some (.int r.1)) (r.2, if r.1 = (-1 : Int32) then polX Δ X rl pt else X) := by
  refine ev_of (by decide) (Nat.le_of_ble_eq_true rfl) (fun Γ hk hR hT => ?_)
  change GG Δ m_Eng_policy Γ NN 0 0 (I, X) 0 [some (.ref (Δ.ba + 0)), none] []
  unfold f_Eng_policy at h
  refine g_aload_n (pc := 0) (dd d_Eng_policy 0 rfl) rfl ?_
  refine g_getr (pc := 1) (dd d_Eng_policy 1 rfl) f_Eng_21 oc_Eng rfl (rx_Eng_1 hX) ?_
  obtain ⟨v, e, h⟩ := bnd_e h
  refine g_callV (pc := 4) (dd d_Eng_policy 2 rfl) v_Eng_99 oc_Prd rfl (ef_Prd_read hX e) rfl (by omega) (Nat.le_of_ble_eq_true rfl) ⟨Nat.zero_le _, Nat.zero_le _⟩ rfl ?_
  refine g_istore_n (pc := 7) (dd d_Eng_policy 3 rfl) (by decide) ?_
  refine g_iload_n (pc := 8) (dd d_Eng_policy 4 rfl) rfl ?_
  refine g_iconst (pc := 9) (v := (-1)) (dd d_Eng_policy 5 rfl) (by decide) ?_
  refine g_icmpeq (pc := 10) (tgt := 15) (dd d_Eng_policy 6 rfl) (by decide) (fun q => ?_) (fun q => ?_)
  · replace h := ite_t h q
    obtain ⟨I1, e1, h⟩ := bnd_e h
    obtain ⟨I2, e2, h⟩ := bnd_e h
    cases h
    rw [if_pos rfl] at hT
    refine g_aload_n (pc := 15) (dd d_Eng_policy 9 rfl) rfl ?_
    refine g_aload_n (pc := 16) (dd d_Eng_policy 10 rfl) rfl ?_
    refine g_getr (pc := 17) (dd d_Eng_policy 11 rfl) f_Eng_21 oc_Eng rfl (rx_Eng_1 hX) ?_
    refine g_aload_n (pc := 20) (dd d_Eng_policy 12 rfl) rfl ?_
    refine g_getr (pc := 21) (dd d_Eng_policy 13 rfl) f_Eng_60 oc_Eng rfl hX.r_rl ?_
    refine g_callV (pc := 24) (dd d_Eng_policy 14 rfl) v_Eng_103 oc_Prd rfl (ef_Prd_exchange hX (q := rl)) rfl (by omega) (Nat.le_of_ble_eq_true rfl) ⟨Nat.zero_le _, Nat.zero_le _⟩ rfl ?_
    refine g_putR (pc := 27) (j := 7) (dd d_Eng_policy 15 rfl) f_Eng_60 (Or.inl fm_Eng_7) oc_Eng rfl (fun _ => rfl) (fun _ => rfl) ?_
    have hX2 := ex_polX hX
    change GG Δ m_Eng_policy Γ NN 0 0 (v.2, polX Δ X rl pt) (27 + 3) _ _
    refine g_aload_n (pc := 30) (dd d_Eng_policy 16 rfl) rfl ?_
    refine g_getr (pc := 31) (dd d_Eng_policy 17 rfl) f_Eng_66 oc_Eng rfl hX2.r_hd ?_
    refine g_callV (pc := 34) (dd d_Eng_policy 18 rfl) v_Eng_107 (oc_Mch hX.i_hd) rfl (ef_Mch_forgetAnswers hX2 hX.i_hd e1) rfl (by omega) (Nat.le_of_ble_eq_true rfl) ⟨Nat.zero_le _, Nat.zero_le _⟩ rfl ?_
    refine g_aload_n (pc := 37) (dd d_Eng_policy 19 rfl) rfl ?_
    refine g_getr (pc := 38) (dd d_Eng_policy 20 rfl) f_Eng_70 oc_Eng rfl hX2.r_ot ?_
    refine g_callV (pc := 41) (dd d_Eng_policy 21 rfl) v_Eng_107 (oc_Mch hX.i_ot) rfl (ef_Mch_forgetAnswers hX2 hX.i_ot e2) rfl (by omega) (Nat.le_of_ble_eq_true rfl) ⟨Nat.zero_le _, Nat.zero_le _⟩ rfl ?_
    refine g_iconst (pc := 44) (v := (-1)) (dd d_Eng_policy 22 rfl) (by decide) ?_
    exact g_iret (pc := 45) rfl (dd d_Eng_policy 23 rfl) hT
  · replace h := ite_f h q
    cases h
    rw [if_neg q] at hT
    refine g_iload_n (pc := 13) (dd d_Eng_policy 7 rfl) rfl ?_
    exact g_iret (pc := 14) rfl (dd d_Eng_policy 8 rfl) hT
def imgX (Δ : Dx) (X : Lx) (hd it : Nat) : Lx := setR (setR X 15 1 (.ref (Δ.ba + hd))) 0 8 (.ref (Δ.ba + it))
theorem ex_imgX {Δ : Dx} {X : Lx} {rl hd ot pt it : Nat} (hX : EX Δ X rl hd ot pt it) : EX Δ (imgX Δ X hd it) rl it ot pt hd := ex_hd (ex_it hX hX.i_hd) hX.i_it
theorem ef_Eng_image {Δ : Dx} {X : Lx} {rl hd ot pt it : Nat} (hX : EX Δ X rl hd ot pt it) {n : Nat} {I : IM} {r : Int32 × IM} (h : f_Img_read n it X.1 I = some r) : Ev Δ 9 m_Eng_image [.ref (Δ.ba + 0)] (I, X) (some (.int r.1)) (r.2, if r.1 = (-1 : Int32) then imgX Δ X hd it else X) := by
  refine ev_of (by decide) (Nat.le_of_ble_eq_true rfl) (fun Γ hk hR hT => ?_)
  change GG Δ m_Eng_image Γ NN 0 0 (I, X) 0 [some (.ref (Δ.ba + 0)), none] []
  refine g_aload_n (pc := 0) (dd d_Eng_image 0 rfl) rfl ?_
  refine g_getr (pc := 1) (dd d_Eng_image 1 rfl) f_Eng_28 oc_Eng rfl (rx_Eng_2 hX) ?_
  refine g_callV (pc := 4) (dd d_Eng_image 2 rfl) v_Eng_110 oc_Img rfl (ef_Img_read hX h) rfl (by omega) (Nat.le_of_ble_eq_true rfl) ⟨Nat.zero_le _, Nat.zero_le _⟩ rfl ?_
  refine g_istore_n (pc := 7) (dd d_Eng_image 3 rfl) (by decide) ?_
  refine g_iload_n (pc := 8) (dd d_Eng_image 4 rfl) rfl ?_
  refine g_iconst (pc := 9) (v := (-1)) (dd d_Eng_image 5 rfl) (by decide) ?_
  refine g_icmpeq (pc := 10) (tgt := 15) (dd d_Eng_image 6 rfl) (by decide) (fun q => ?_) (fun q => ?_)
  · rw [if_pos q, q] at hT
    refine g_aload_n (pc := 15) (dd d_Eng_image 9 rfl) rfl ?_
    refine g_aload_n (pc := 16) (dd d_Eng_image 10 rfl) rfl ?_
    refine g_getr (pc := 17) (dd d_Eng_image 11 rfl) f_Eng_28 oc_Eng rfl (rx_Eng_2 hX) ?_
    refine g_aload_n (pc := 20) (dd d_Eng_image 12 rfl) rfl ?_
    refine g_getr (pc := 21) (dd d_Eng_image 13 rfl) f_Eng_66 oc_Eng rfl hX.r_hd ?_
    refine g_callV (pc := 24) (dd d_Eng_image 14 rfl) v_Eng_111 oc_Img rfl (ef_Img_exchange hX (q := hd)) rfl (by omega) (Nat.le_of_ble_eq_true rfl) ⟨Nat.zero_le _, Nat.zero_le _⟩ rfl ?_
    refine g_putR (pc := 27) (j := 8) (dd d_Eng_image 15 rfl) f_Eng_66 (Or.inl fm_Eng_8) oc_Eng rfl (fun _ => rfl) (fun _ => rfl) ?_
    refine g_iconst (pc := 30) (v := (-1)) (dd d_Eng_image 16 rfl) (by decide) ?_
    exact g_iret (pc := 31) rfl (dd d_Eng_image 17 rfl) hT
  · rw [if_neg q] at hT
    refine g_iload_n (pc := 13) (dd d_Eng_image 7 rfl) rfl ?_
    exact g_iret (pc := 14) rfl (dd d_Eng_image 8 rfl) hT
def swpX (Δ : Dx) (X : Lx) (hd ot : Nat) : Lx := setR (setR X 0 8 (.ref (Δ.ba + ot))) 0 9 (.ref (Δ.ba + hd))
theorem ex_swpX {Δ : Dx} {X : Lx} {rl hd ot pt it : Nat} (hX : EX Δ X rl hd ot pt it) : EX Δ (swpX Δ X hd ot) rl ot hd pt it := ex_ot (ex_hd hX hX.i_ot) hX.i_hd
theorem ef_Eng_swap {Δ : Dx} {X : Lx} {rl hd ot pt it : Nat} (hX : EX Δ X rl hd ot pt it) {I : IM} : Ev Δ 0 m_Eng_swap [.ref (Δ.ba + 0)] (I, X) none (I, swpX Δ X hd ot) := by
  refine ev_of (by decide) (Nat.le_of_ble_eq_true rfl) (fun Γ hk hR hT => ?_)
  change GG Δ m_Eng_swap Γ NN 0 0 (I, X) 0 [some (.ref (Δ.ba + 0)), none] []
  refine g_aload_n (pc := 0) (dd d_Eng_swap 0 rfl) rfl ?_
  refine g_getr (pc := 1) (dd d_Eng_swap 1 rfl) f_Eng_66 oc_Eng rfl hX.r_hd ?_
  refine g_astore_n (pc := 4) (dd d_Eng_swap 2 rfl) (by decide) ?_
  refine g_aload_n (pc := 5) (dd d_Eng_swap 3 rfl) rfl ?_
  refine g_aload_n (pc := 6) (dd d_Eng_swap 4 rfl) rfl ?_
  refine g_getr (pc := 7) (dd d_Eng_swap 5 rfl) f_Eng_70 oc_Eng rfl hX.r_ot ?_
  refine g_putR (pc := 10) (j := 8) (dd d_Eng_swap 6 rfl) f_Eng_66 (Or.inl fm_Eng_8) oc_Eng rfl (fun _ => rfl) (fun _ => rfl) ?_
  refine g_aload_n (pc := 13) (dd d_Eng_swap 7 rfl) rfl ?_
  refine g_aload_n (pc := 14) (dd d_Eng_swap 8 rfl) rfl ?_
  refine g_putR (pc := 15) (j := 9) (dd d_Eng_swap 9 rfl) f_Eng_70 (Or.inl fm_Eng_9) oc_Eng rfl (fun _ => rfl) (fun _ => rfl) ?_
  exact g_vret (pc := 18) rfl (dd d_Eng_swap 10 rfl) hT
