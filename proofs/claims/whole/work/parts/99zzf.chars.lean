/-! a number's signs are written into the line's row -/
theorem lw1 {w : Cond} (i : Nat) (h0 : tables_1_1[i]? = some w) : w ∈ lw_tbl := by
  have h : w ∈ tables_1_1 := List.mem_of_getElem? h0
  exact List.mem_append_right _ (List.mem_append_left _ h)
def Dt (Δ : Dx) (nm : String) (f : Nat → Int32) (t : Nat) : Prop := (Term.static "java/lang/Integer" nm "[B").eval Δ.a0 Δ.s0 none [] Δ.s0 = some (.ref t) ∧ va_T .byte t 100 (fun j => .int (f j)) Δ.A Δ.s0 Δ.s0.heap
def gd1 (j : Nat) : Int32 := nI (48 + j % 10)
def gd2 (j : Nat) : Int32 := nI (48 + j / 10)
theorem dt_1a : FLc[12]? = some (Cond.arrayOf (.static "java/lang/Integer" "DigitOnes" "[B") .byte) := by decide +kernel
theorem dt_1b : FLc[13]? = some (Cond.eq (.length (.static "java/lang/Integer" "DigitOnes" "[B")) (.int (Int32.ofNat 100))) := by decide +kernel
theorem dt_1f : ∀ j, j < 100 → FLc[14 + j]? = some (Cond.eq (.elem (.static "java/lang/Integer" "DigitOnes" "[B") (.int (Int32.ofNat j))) (.int (gd1 j))) := by decide +kernel
theorem dt_2a : FLc[115]? = some (Cond.arrayOf (.static "java/lang/Integer" "DigitTens" "[B") .byte) := by decide +kernel
theorem dt_2b : FLc[116]? = some (Cond.eq (.length (.static "java/lang/Integer" "DigitTens" "[B")) (.int (Int32.ofNat 100))) := by decide +kernel
theorem dt_2f : ∀ j, j < 100 → FLc[117 + j]? = some (Cond.eq (.elem (.static "java/lang/Integer" "DigitTens" "[B") (.int (Int32.ofNat j))) (.int (gd2 j))) := by decide +kernel
theorem kx_A {Δ : Dx} {U : State} (h : Kx Δ U) : ∀ a : Nat, a < Δ.s0.heap.size → ¬ Δ.A a := fun a ha q => by
  rw [h.2.2.2.2.2.1] at ha
  exact absurd ha (Nat.not_lt.mpr q)
theorem dt_1 {Δ : Dx} {U : State} (h : Kx Δ U) : ∃ t, Dt Δ "DigitOnes" gd1 t := va_Tof (N := 100) (f := fun j => .int (gd1 j)) (A := Δ.A) (by decide) (kx_fl h dt_1a) (va_eqt (kx_fl h dt_1b)) (fun j hj => va_eqt (kx_fl h (dt_1f j hj))) (kx_A h)
theorem dt_2 {Δ : Dx} {U : State} (h : Kx Δ U) : ∃ t, Dt Δ "DigitTens" gd2 t := va_Tof (N := 100) (f := fun j => .int (gd2 j)) (A := Δ.A) (by decide) (kx_fl h dt_2a) (va_eqt (kx_fl h dt_2b)) (fun j hj => va_eqt (kx_fl h (dt_2f j hj))) (kx_A h)
theorem g_dig {Δ : Dx} {mi : MI} {Γ : Cx} {n k c : Nat} {σ : St} {pc : Nat} {lv : List (Option Value)} {rest : List Value} {idx : Nat} {nm : String} {f : Nat → Int32} {t : Nat} (hdg : decode mi.2.1 pc = .ok (.getstatic idx, 3)) (hd : Dt Δ nm f t) (w1 : Cond.laysStatic "java/lang/Integer" nm "[B" ∈ lw_tbl) (hlink : Cond.fieldLink mi.1.cls idx "java/lang/Integer" nm "[B" ∈ tb) (kk : GG Δ mi Γ n k c σ (pc + 3) lv (.ref t :: rest)) : GG Δ mi Γ n k c σ pc lv rest := fun ok H locs ls hP hS hl => by
  have hK := ok.2.2.2.2.2.2.2.1
  exact va_gets ok.1 ok.2.1 (kx_static hK w1 (lw1 30 rfl) hd.1) hS ok.2.2.2.1 (ok.2.2.2.2.1 _ hlink) (fun _ h => h) hdg (kk ok H locs ls hP hS hl)
theorem ls_1 : Cond.laysStatic "java/lang/Integer" "DigitOnes" "[B" ∈ lw_tbl := lw5 131 rfl
theorem ls_2 : Cond.laysStatic "java/lang/Integer" "DigitTens" "[B" ∈ lw_tbl := lw5 133 rfl
theorem lk_1 : Cond.fieldLink "java/lang/Integer" 83 "java/lang/Integer" "DigitOnes" "[B" ∈ tb := tk5 130 rfl rfl
theorem lk_2 : Cond.fieldLink "java/lang/Integer" 87 "java/lang/Integer" "DigitTens" "[B" ∈ tb := tk5 132 rfl rfl
theorem dig_fit : ∀ m, m < 10 → fits .byte (.int (nI (48 + m))) = true := by decide +kernel
theorem upA_2 {α : Type} {f : Nat → α} {a : Nat} {g g' : α} : upA (upA f a g) a g' = upA f a g' := by
  funext b
  by_cases h : b = a
  · rw [h, upA_s, upA_s]
  · rw [upA_n h, upA_n h, upA_n h]
theorem vS_vS {σ : St} {f g : Nat → Int32} : vS (vS σ f) g = vS σ g := by
  by_cases h : rN (σ.2.2 201 6) = 0
  · rw [show vS σ f = (upA σ.1 56 f, σ.2) from if_pos h, show vS σ g = (upA σ.1 56 g, σ.2) from if_pos h]
    have e : vS (upA σ.1 56 f, σ.2) g = (upA (upA σ.1 56 f) 56 g, σ.2) := if_pos h
    rw [e, upA_2]
  · rw [show vS σ f = (σ.1, upA σ.2.1 200 (fun k => (f k).toInt64), σ.2.2) from if_neg h, show vS σ g = (σ.1, upA σ.2.1 200 (fun k => (g k).toInt64), σ.2.2) from if_neg h]
    have e : vS (σ.1, upA σ.2.1 200 (fun k => (f k).toInt64), σ.2.2) g = (σ.1, upA (upA σ.2.1 200 (fun k => (f k).toInt64)) 200 (fun k => (g k).toInt64), σ.2.2) := if_neg h
    rw [e, upA_2]
/-- l written so that it ends before pos -/
def wr (f : Nat → Int32) (pos : Nat) (l : List Int32) : Nat → Int32 := va_cpy (fun j => l.getD j 0) f 0 (pos - l.length) l.length
theorem wr_0 {f : Nat → Int32} {pos : Nat} : wr f pos [] = f := by
  funext k
  unfold wr va_cpy
  exact if_neg (by simp)
theorem wr_app {f : Nat → Int32} {pos : Nat} {l : List Int32} {c : Int32} (h : l.length + 1 ≤ pos) : wr f pos (l ++ [c]) = wr (upd f (pos - 1) c) (pos - 1) l := by
  funext k
  unfold wr va_cpy upd
  rw [show (l ++ [c]).length = l.length + 1 from List.length_append]
  dsimp only
  rw [getD_app, Nat.zero_add, Nat.zero_add]
  by_cases h1 : pos - 1 - l.length ≤ k
  · by_cases h2 : k < pos - 1
    · rw [if_pos ⟨by omega, by omega⟩, if_pos (by omega), if_pos ⟨by omega, by omega⟩, show k - (pos - (l.length + 1)) = k - (pos - 1 - l.length) by omega]
    · by_cases h3 : k = pos - 1
      · rw [if_pos ⟨by omega, by omega⟩, if_neg (by omega), if_neg (by omega), if_pos h3, show k - (pos - (l.length + 1)) - l.length = 0 by omega]
        rfl
      · rw [if_neg (by omega), if_neg (by omega), if_neg h3]
  · rw [if_neg (by omega), if_neg (by omega), if_neg (by omega)]
theorem wr_cons {f : Nat → Int32} {pos : Nat} {l : List Int32} {c : Int32} (h : l.length + 1 ≤ pos) : wr f pos (c :: l) = upd (wr f pos l) (pos - l.length - 1) c := by
  funext k
  unfold wr va_cpy upd
  rw [show (c :: l).length = l.length + 1 from rfl]
  dsimp only
  rw [Nat.zero_add, Nat.zero_add]
  by_cases h1 : k = pos - l.length - 1
  · rw [if_pos ⟨by omega, by omega⟩, if_pos h1, show k - (pos - (l.length + 1)) = 0 by omega]
    rfl
  · rw [if_neg h1]
    by_cases h2 : pos - l.length ≤ k ∧ k < pos - l.length + l.length
    · rw [if_pos ⟨by omega, by omega⟩, if_pos h2, show k - (pos - (l.length + 1)) = (k - (pos - l.length)) + 1 by omega]
      rfl
    · rw [if_neg (by omega), if_neg h2]
theorem nI_dec {p : Nat} (h : 1 ≤ p) : nI p + Int32.ofInt (-1) = nI (p - 1) := by
  rw [show nI p = nI (p - 1) + nI 1 from by rw [nI_add]; congr 1; omega, Int32.add_assoc, show nI 1 + Int32.ofInt (-1) = 0 from by decide, Int32.add_zero]
section CharRun
variable {Δ : Dx} {Γ : Cx} {σ : St} {ng r : Int32} {F : Nat → Int32} {t1 t2 : Nat}
theorem g_forget {mi : MI} {n k c pc : Nat} {lv lv' : List (Option Value)} {st : List Value} (h : ∀ (i : Nat) (v : Value), lv'[i]? = some (some v) → lv[i]? = some (some v)) (kk : GG Δ mi Γ n k c σ pc lv' st) : GG Δ mi Γ n k c σ pc lv st := fun ok H locs ls hP hS hl => kk ok H locs ls hP hS ⟨hl.1, hl.2.1, fun i v hi => hl.2.2 i v (h i v hi)⟩
/-- one sign is written -/
theorem g_sgn {pc p : Nat} {f : Nat → Int32} {c : Int32} {lv : List (Option Value)} {rest : List Value} (hdg : decode m_Int_getChars.2.1 pc = .ok (.bastore, 1)) (hV : Vb σ) (hL : vL σ ≤ 70) (hf : ∀ k, fits .byte (.int (f k)) = true) (hc : fits .byte (.int c) = true) (hp : p < vL σ) (kk : (∀ k, fits .byte (.int (upd f p c k)) = true) → GG Δ m_Int_getChars Γ NN 0 0 (vS σ (upd f p c)) (pc + 1) lv rest) : GG Δ m_Int_getChars Γ NN 0 0 (vS σ f) pc lv (.int c :: .int (nI p) :: .ref (vA Δ σ) :: rest) := by
  refine g_bastV hdg vS_A.symm (vS_b hf hV) (by rw [vS_L]; exact nI_in hp (by omega)) ?_
  rw [vS_vS, vS_F hf, nI_clamp (by omega), nar_fit hc]
  exact kk (upd_fit hf hc)
theorem gc_tail (hV : Vb σ) (hL : vL σ ≤ 70) (hT : Tg Δ Γ (some (.int r)) NN (vS σ F) 0 0) (hng : ng = 0 ∨ ng = 1) {pos : Nat} {f : Nat → Int32} {l0 l1 l3 : Option Value} (hf : ∀ k, fits .byte (.int (f k)) = true) (hp : pos ≤ vL σ) (hp1 : ng = 1 → 1 ≤ pos) (hF : F = if ng = 0 then f else upd f (pos - 1) (nI 45)) (hr : r = nI (if ng = 0 then pos else pos - 1)) : GG Δ m_Int_getChars Γ NN 0 0 (vS σ f) 104 [l0, l1, some (.ref (vA Δ σ)), l3, none, some (.int (nI pos)), some (.int ng)] [] := by
  refine g_iload (pc := 104) (dd d_Int_getChars_1 2 rfl) rfl ?_
  refine g_ifeq (pc := 106) (tgt := 118) (dd d_Int_getChars_1 3 rfl) (by decide) (fun q => ?_) (fun q => ?_)
  · rw [if_pos q] at hF hr
    refine g_iload (pc := 118) (dd d_Int_getChars_1 9 rfl) rfl ?_
    rw [hF, hr] at hT
    exact g_iret (pc := 120) rfl (dd d_Int_getChars_1 10 rfl) hT
  · rw [if_neg q] at hF hr
    have h1 := hp1 (by rcases hng with h | h; exact absurd h q; exact h)
    refine g_aload_n (pc := 109) (dd d_Int_getChars_1 4 rfl) rfl ?_
    refine g_iinc (pc := 110) (dd d_Int_getChars_1 5 rfl) rfl (by decide) ?_
    rw [nI_dec h1]
    refine g_iload (pc := 113) (x := nI (pos - 1)) (dd d_Int_getChars_1 6 rfl) rfl ?_
    refine g_bipush (pc := 115) (v := nI 45) (dd d_Int_getChars_1 7 rfl) (by decide) ?_
    refine g_sgn (pc := 117) (dd d_Int_getChars_1 8 rfl) hV hL hf (by decide) (by omega) (fun _ => ?_)
    refine g_iload (pc := 118) (dd d_Int_getChars_1 9 rfl) rfl ?_
    rw [hF, hr] at hT
    exact g_iret (pc := 120) rfl (dd d_Int_getChars_1 10 rfl) hT
theorem gc_loop (hV : Vb σ) (hL : vL σ ≤ 70) (k1 : Dt Δ "DigitOnes" gd1 t1) (k2 : Dt Δ "DigitTens" gd2 t2) (hT : Tg Δ Γ (some (.int r)) NN (vS σ F) 0 0) (hng : ng = 0 ∨ ng = 1) : ∀ (m a pos : Nat) (y : Int32) (f : Nat → Int32), a < m → a ≤ 2147483648 → y.toInt = -((a : Nat) : Int) → (∀ k, fits .byte (.int (f k)) = true) → pos ≤ vL σ → (dg a).length ≤ pos → (ng = 1 → (dg a).length + 1 ≤ pos) → F = (if ng = 0 then wr f pos (dg a) else upd (wr f pos (dg a)) (pos - (dg a).length - 1) (nI 45)) → r = nI (if ng = 0 then pos - (dg a).length else pos - (dg a).length - 1) →
    GG Δ m_Int_getChars Γ NN 0 0 (vS σ f) 22 [some (.int y), none, some (.ref (vA Δ σ)), none, none, some (.int (nI pos)), some (.int ng)] []
  | 0, a, _, _, _, h, _, _, _, _, _, _, _, _ => absurd h (Nat.not_lt_zero _)
  | m + 1, a, pos, y, f, hm, ha, hy, hf, hp, hl, hl1, hF, hr => by
    have ih := gc_loop hV hL k1 k2 hT hng m
    refine g_iload_n (pc := 22) (dd d_Int_getChars 13 rfl) rfl ?_
    refine g_bipush (pc := 23) (v := -100) (dd d_Int_getChars 14 rfl) (by decide) ?_
    refine g_icmpgt (pc := 25) (tgt := 72) (dd d_Int_getChars 15 rfl) (by decide) (fun q => ?_) (fun q => ?_)
    · rw [Int32.lt_iff_toInt_lt, hy, show (-100 : Int32).toInt = -100 from by decide] at q
      have hn : -y = nI a := by
        apply Int32.toInt_inj.mp
        rw [Int32.toInt_neg, hy, nI_toInt (by omega), Int.neg_neg]
        exact Int.bmod_eq_of_le (by omega) (by omega)
      have hpos : 1 ≤ pos := by
        have : 1 ≤ (dg a).length := by
          by_cases h : a < 10
          · rw [dg_1 h]; exact Nat.le_refl _
          · rw [dg_2 h, List.length_append]; exact Nat.le_add_left _ _
        omega
      refine g_aload_n (pc := 72) (dd d_Int_getChars 43 rfl) rfl ?_
      refine g_iinc (pc := 73) (dd d_Int_getChars 44 rfl) rfl (by decide) ?_
      rw [nI_dec hpos]
      refine g_iload (pc := 76) (x := nI (pos - 1)) (dd d_Int_getChars 45 rfl) rfl ?_
      refine g_dig (pc := 78) (dd d_Int_getChars 46 rfl) k1 ls_1 lk_1 ?_
      refine g_iload_n (pc := 81) (dd d_Int_getChars 47 rfl) rfl ?_
      refine g_ineg (pc := 82) (dd d_Int_getChars 48 rfl) ?_
      rw [hn]
      refine g_oldb (pc := 83) (v := .int (nI (48 + a % 10))) (dd d_Int_getChars 49 rfl) k1.2 (nI_in (by omega) (by decide)) (by rw [nI_clamp (by omega)]; rfl) ?_
      refine g_sgn (pc := 84) (dd d_Int_getChars 50 rfl) hV hL hf (dig_fit _ (by omega)) (by omega) (fun hf1 => ?_)
      refine g_iload_n (pc := 85) (dd d_Int_getChars 51 rfl) rfl ?_
      refine g_bipush (pc := 86) (v := -9) (dd d_Int_getChars 52 rfl) (by decide) ?_
      refine g_icmpge (pc := 88) (tgt := 104) (dd d_Int_getChars 53 rfl) (by decide) (fun z => ?_) (fun z => ?_)
      · rw [Int32.le_iff_toInt_le, hy, show (-9 : Int32).toInt = -9 from by decide] at z
        have h10 : a < 10 := by omega
        rw [dg_1 h10] at hl hl1 hF hr
        rw [show [nI (48 + a)] = [] ++ [nI (48 + a % 10)] from by rw [Nat.mod_eq_of_lt h10]; rfl, wr_app (by exact hpos), wr_0] at hF
        exact gc_tail hV hL hT hng hf1 (by omega) (fun h => by have := hl1 h; show 1 ≤ pos - 1; have e : ([nI (48 + a)] : List Int32).length = 1 := rfl; omega) hF hr
      · rw [Int32.le_iff_toInt_le, hy, show (-9 : Int32).toInt = -9 from by decide] at z
        have h10 : ¬ a < 10 := by omega
        have e2 : dg a = [nI (48 + a / 10)] ++ [nI (48 + a % 10)] := by rw [dg_2 h10, dg_1 (by omega)]
        have el : (dg a).length = 2 := by rw [e2]; rfl
        rw [el] at hl hl1 hr
        rw [el, e2, wr_app (by exact hl), show [nI (48 + a / 10)] = [] ++ [nI (48 + a / 10)] from rfl, wr_app (by show 0 + 1 ≤ pos - 1; omega), wr_0] at hF
        refine g_aload_n (pc := 91) (dd d_Int_getChars 54 rfl) rfl ?_
        refine g_iinc (pc := 92) (dd d_Int_getChars 55 rfl) rfl (by decide) ?_
        rw [nI_dec (by omega)]
        refine g_iload (pc := 95) (dd d_Int_getChars 56 rfl) rfl ?_
        refine g_dig (pc := 97) (dd d_Int_getChars 57 rfl) k2 ls_2 lk_2 ?_
        refine g_iload_n (pc := 100) (dd d_Int_getChars 58 rfl) rfl ?_
        refine g_ineg (pc := 101) (dd d_Int_getChars 59 rfl) ?_
        rw [hn]
        refine g_oldb (pc := 102) (v := .int (nI (48 + a / 10))) (dd d_Int_getChars_1 0 rfl) k2.2 (nI_in (by omega) (by decide)) (by rw [nI_clamp (by omega)]; rfl) ?_
        refine g_sgn (pc := 103) (dd d_Int_getChars_1 1 rfl) hV hL hf1 (dig_fit _ (by omega)) (by omega) (fun hf2 => ?_)
        exact gc_tail hV hL hT hng hf2 (by omega) (fun h => by have := hl1 h; omega) hF hr
    · rw [Int32.lt_iff_toInt_lt, hy, show (-100 : Int32).toInt = -100 from by decide] at q
      have h100 : 100 ≤ a := by omega
      have hq : (y / 100).toInt = -((a / 100 : Nat) : Int) := by
        rw [Int32.toInt_div, hy, show (100 : Int32).toInt = 100 from by decide, Int.neg_tdiv, show ((a : Nat) : Int).tdiv 100 = ((a / 100 : Nat) : Int) from rfl]
        exact Int.bmod_eq_of_le (by omega) (by omega)
      have hrr : y / 100 * 100 - y = nI (a % 100) := by
        apply Int32.toInt_inj.mp
        rw [Int32.toInt_sub, Int32.toInt_mul, hq, hy, show (100 : Int32).toInt = 100 from by decide, nI_toInt (by omega), Int.bmod_eq_of_le (n := -((a / 100 : Nat) : Int) * 100) (by omega) (by omega), Int.bmod_eq_of_le (by omega) (by omega)]
        omega
      have e1 : dg a = dg (a / 10) ++ [nI (48 + a % 10)] := dg_2 (by omega)
      have e2 : dg (a / 10) = dg (a / 100) ++ [nI (48 + a / 10 % 10)] := by rw [dg_2 (by omega), Nat.div_div_eq_div_mul]
      have el : (dg a).length = (dg (a / 100)).length + 2 := by rw [e1, e2, List.length_append, List.length_append]; rfl
      have ew : wr f pos (dg a) = wr (upd (upd f (pos - 1) (nI (48 + a % 10))) (pos - 1 - 1) (nI (48 + a / 10 % 10))) (pos - 1 - 1) (dg (a / 100)) := by
        rw [e1, wr_app (by rw [e2, List.length_append]; show _ + 1 + 1 ≤ pos; omega), e2, wr_app (by omega)]
      refine g_iload_n (pc := 28) (dd d_Int_getChars 16 rfl) rfl ?_
      refine g_bipush (pc := 29) (v := 100) (dd d_Int_getChars 17 rfl) (by decide) ?_
      refine g_idiv (pc := 31) (dd d_Int_getChars 18 rfl) (by decide) ?_
      refine g_istore_n (pc := 32) (dd d_Int_getChars 19 rfl) (by decide) ?_
      refine g_iload_n (pc := 33) (dd d_Int_getChars 20 rfl) rfl ?_
      refine g_bipush (pc := 34) (v := 100) (dd d_Int_getChars 21 rfl) (by decide) ?_
      refine g_imul (pc := 36) (dd d_Int_getChars 22 rfl) ?_
      refine g_iload_n (pc := 37) (dd d_Int_getChars 23 rfl) rfl ?_
      refine g_isub (pc := 38) (dd d_Int_getChars 24 rfl) ?_
      rw [hrr]
      refine g_istore (pc := 39) (dd d_Int_getChars 25 rfl) (by decide) ?_
      refine g_iload_n (pc := 41) (dd d_Int_getChars 26 rfl) rfl ?_
      refine g_istore_n (pc := 42) (dd d_Int_getChars 27 rfl) (by decide) ?_
      refine g_aload_n (pc := 43) (dd d_Int_getChars 28 rfl) rfl ?_
      refine g_iinc (pc := 44) (dd d_Int_getChars 29 rfl) rfl (by decide) ?_
      rw [nI_dec (by omega)]
      refine g_iload (pc := 47) (dd d_Int_getChars 30 rfl) rfl ?_
      refine g_dig (pc := 49) (dd d_Int_getChars 31 rfl) k1 ls_1 lk_1 ?_
      refine g_iload (pc := 52) (dd d_Int_getChars 32 rfl) rfl ?_
      refine g_oldb (pc := 54) (v := .int (nI (48 + a % 10))) (dd d_Int_getChars 33 rfl) k1.2 (nI_in (by omega) (by decide)) (by rw [nI_clamp (by omega)]; show Value.int (nI (48 + a % 100 % 10)) = _; rw [show a % 100 % 10 = a % 10 by omega]) ?_
      refine g_sgn (pc := 55) (dd d_Int_getChars 34 rfl) hV hL hf (dig_fit _ (by omega)) (by omega) (fun hf1 => ?_)
      refine g_aload_n (pc := 56) (dd d_Int_getChars 35 rfl) rfl ?_
      refine g_iinc (pc := 57) (dd d_Int_getChars 36 rfl) rfl (by decide) ?_
      rw [nI_dec (by omega)]
      refine g_iload (pc := 60) (dd d_Int_getChars 37 rfl) rfl ?_
      refine g_dig (pc := 62) (dd d_Int_getChars 38 rfl) k2 ls_2 lk_2 ?_
      refine g_iload (pc := 65) (dd d_Int_getChars 39 rfl) rfl ?_
      refine g_oldb (pc := 67) (v := .int (nI (48 + a / 10 % 10))) (dd d_Int_getChars 40 rfl) k2.2 (nI_in (by omega) (by decide)) (by rw [nI_clamp (by omega)]; show Value.int (nI (48 + a % 100 / 10)) = _; rw [show a % 100 / 10 = a / 10 % 10 by omega]) ?_
      refine g_sgn (pc := 68) (dd d_Int_getChars 41 rfl) hV hL hf1 (dig_fit _ (by omega)) (by omega) (fun hf2 => ?_)
      refine g_goto (pc := 69) (tgt := 22) (dd d_Int_getChars 42 rfl) (by decide) ?_
      refine g_forget (lv' := [some (.int (y / 100)), none, some (.ref (vA Δ σ)), none, none, some (.int (nI (pos - 1 - 1))), some (.int ng)]) (fun i v hi => ?_) ?_
      · match i, hi with
        | 0, hi => exact hi
        | 1, hi => cases hi
        | 2, hi => exact hi
        | 3, hi => cases hi
        | 4, hi => cases hi
        | 5, hi => exact hi
        | 6, hi => exact hi
        | i + 7, hi => cases hi
      refine ih (a / 100) (pos - 1 - 1) (y / 100) _ (by omega) (by omega) hq hf2 (by omega) (by omega) (fun h => by have := hl1 h; omega) ?_ ?_
      · rw [hF, ew, el, show pos - ((dg (a / 100)).length + 2) - 1 = pos - 1 - 1 - (dg (a / 100)).length - 1 by omega]
      · rw [hr, el, show pos - ((dg (a / 100)).length + 2) = pos - 1 - 1 - (dg (a / 100)).length by omega]
end CharRun
