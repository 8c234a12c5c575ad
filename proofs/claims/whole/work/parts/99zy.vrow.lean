/-! the row of bytes in which the line lies: the one that it was made with (cell 56), or the one that was made last -/
theorem cellO_w {ca : FieldType → ClassId} {σ σ' : St} {b : Nat} (h1 : σ'.1 b = σ.1 b) (h2 : σ'.2.1 b = σ.2.1 b) (h3 : σ'.2.2 b = σ.2.2 b) : cellO ca σ' b = cellO ca σ b := by
  have e : ∀ ci, fv ci σ' b = fv ci σ b := fun ci => by
    funext j
    unfold fv
    rw [h1, h2, h3]
  have e2 : ∀ ty, aco ty σ' b = aco ty σ b := fun ty => by
    unfold aco
    rw [h1, h2]
  unfold cellO
  generalize sh b = z
  rcases z with ⟨ty, n⟩ | ci
  · show (Sum.inl (ca ty, n, aco ty σ' b) : va_E) = Sum.inl (ca ty, n, aco ty σ b)
    rw [e2]
  · show (Sum.inr (ci, (List.range (nmF ci)).map (fv ci σ' b)) : va_E) = Sum.inr (ci, (List.range (nmF ci)).map (fv ci σ b))
    rw [e]
theorem fit_nar (x : Int32) : fits .byte (.int (vp_nar .byte x)) = true := by
  show (decide ((-128 : Int32) ≤ x.toInt8.toInt32) && decide (x.toInt8.toInt32 ≤ 127)) = true
  have h1 := Int8.le_toInt x.toInt8
  have h2 := Int8.toInt_lt x.toInt8
  rw [Bool.and_eq_true, decide_eq_true_eq, decide_eq_true_eq, Int32.le_iff_toInt_le, Int32.le_iff_toInt_le, Int8.toInt_toInt32, show (-128 : Int32).toInt = -128 from by decide, show (127 : Int32).toInt = 127 from by decide]
  omega
theorem nar_fit {x : Int32} (h : fits .byte (.int x) = true) : vp_nar .byte x = x := by
  have h' : (decide ((-128 : Int32) ≤ x) && decide (x ≤ 127)) = true := h
  rw [Bool.and_eq_true, decide_eq_true_eq, decide_eq_true_eq, Int32.le_iff_toInt_le, Int32.le_iff_toInt_le, show (-128 : Int32).toInt = -128 from by decide, show (127 : Int32).toInt = 127 from by decide] at h'
  show x.toInt8.toInt32 = x
  apply Int32.toInt_inj.mp
  rw [Int8.toInt_toInt32, Int32.toInt_toInt8]
  exact Int.bmod_eq_of_le (by omega) (by omega)
theorem bt_of (y : Int32) : btJ y.toInt64 = vp_nar .byte y := by
  unfold btJ
  rw [Int32.toInt32_toInt64]
theorem bt_fit {f : Nat → Int32} (hf : ∀ k, fits .byte (.int (f k)) = true) : (fun k => btJ (f k).toInt64) = f := by
  funext k
  rw [bt_of, nar_fit (hf k)]
/-- the two rows that the program makes itself, apart -/
def dyA (ca : FieldType → ClassId) (base : Nat) (σ : St) : va_W := if rN (σ.2.2 201 6) = 0 then [] else [(base + 142 + rN (σ.2.2 201 7), .inl (ca .byte, rN (σ.2.2 201 6), .inl (fun k => btJ (σ.2.1 200 k))))]
def dyB (ca : FieldType → ClassId) (base : Nat) (σ : St) : va_W := if rN (σ.2.2 203 6) = 0 then [] else [(base + 142 + bO σ.2.2 + rN (σ.2.2 203 7), .inl (ca .byte, rN (σ.2.2 203 6), .inl (fun k => btJ (σ.2.1 202 k))))]
theorem dyO_ab {ca : FieldType → ClassId} {base : Nat} {σ : St} : dyO ca base σ = dyA ca base σ ++ dyB ca base σ := rfl
theorem dyA_c {ca : FieldType → ClassId} {base : Nat} {σ σ' : St} (h1 : σ'.2.1 200 = σ.2.1 200) (h2 : σ'.2.2 201 = σ.2.2 201) : dyA ca base σ' = dyA ca base σ := by
  unfold dyA
  rw [h1, h2]
theorem dyB_c {ca : FieldType → ClassId} {base : Nat} {σ σ' : St} (h1 : σ'.2.1 202 = σ.2.1 202) (h2 : σ'.2.2 201 = σ.2.2 201) (h3 : σ'.2.2 203 = σ.2.2 203) : dyB ca base σ' = dyB ca base σ := by
  unfold dyB bO
  rw [h1, h2, h3]
theorem dyA_1 {ca : FieldType → ClassId} {base : Nat} {σ : St} (h : ¬ rN (σ.2.2 201 6) = 0) : dyA ca base σ = [(base + 142 + rN (σ.2.2 201 7), .inl (ca .byte, rN (σ.2.2 201 6), .inl (fun k => btJ (σ.2.1 200 k))))] := if_neg h
theorem dyB_0 {ca : FieldType → ClassId} {base : Nat} {σ : St} (h : rN (σ.2.2 203 6) = 0) : dyB ca base σ = [] := if_pos h
theorem W_cut {Δ : Dx} {σ : St} : Δ.W NN σ = (List.range 142).map (fun a => (Δ.ba + a, cellO Δ.2.2.1 σ a)) ++ (dyA Δ.2.2.1 Δ.ba σ ++ dyB Δ.2.2.1 Δ.ba σ) := by
  rw [← dyO_ab]
  show wsO Δ.2.2.1 Δ.2.2.2.1 142 σ = _
  unfold wsO dyN
  rw [if_pos rfl]
theorem W_low {Δ : Dx} {σ σ' : St} (h : ∀ a, a < 142 → cellO Δ.2.2.1 σ' a = cellO Δ.2.2.1 σ a) : (List.range 142).map (fun a => (Δ.ba + a, cellO Δ.2.2.1 σ' a)) = (List.range 142).map (fun a => (Δ.ba + a, cellO Δ.2.2.1 σ a)) :=
  List.map_congr_left (fun a ha => by rw [h a (List.mem_range.mp ha)])
theorem upA_n {α : Type} {f : Nat → α} {a b : Nat} {g : α} (h : b ≠ a) : upA f a g b = f b := if_neg h
theorem upA_s {α : Type} {f : Nat → α} {a : Nat} {g : α} : upA f a g a = g := if_pos rfl
def vQ (σ : St) : Nat := if rN (σ.2.2 201 6) = 0 then 56 else 142
def vL (σ : St) : Nat := if rN (σ.2.2 201 6) = 0 then 16 else rN (σ.2.2 201 6)
def vF (σ : St) : Nat → Int32 := if rN (σ.2.2 201 6) = 0 then σ.1 56 else fun k => btJ (σ.2.1 200 k)
def vA (Δ : Dx) (σ : St) : Nat := if rN (σ.2.2 201 6) = 0 then Δ.ba + 56 else Δ.ba + 142 + rN (σ.2.2 201 7)
def vS (σ : St) (f : Nat → Int32) : St := if rN (σ.2.2 201 6) = 0 then (upA σ.1 56 f, σ.2) else (σ.1, upA σ.2.1 200 (fun k => (f k).toInt64), σ.2.2)
/-- the bytes of cell 56 are bytes -/
def Vb (σ : St) : Prop := ∀ k, fits .byte (.int (σ.1 56 k)) = true
theorem vF_fit {σ : St} (h : Vb σ) : ∀ k, fits .byte (.int (vF σ k)) = true := by
  unfold vF
  by_cases z : rN (σ.2.2 201 6) = 0
  · rw [if_pos z]
    exact h
  · rw [if_neg z]
    exact fun k => fit_nar _
theorem v_rowA {Δ : Dx} {σ : St} (h : ¬ rN (σ.2.2 201 6) = 0) : (Δ.W NN σ)[142]? = some (Δ.ba + 142 + rN (σ.2.2 201 7), .inl (Δ.2.2.1 .byte, rN (σ.2.2 201 6), .inl (fun k => btJ (σ.2.1 200 k)))) := by
  rw [W_cut, dyA_1 h, List.getElem?_append_right (by rw [List.length_map, List.length_range]; exact Nat.le_refl _), List.length_map, List.length_range]
  rfl
theorem v_row {Δ : Dx} {σ : St} : (Δ.W NN σ)[vQ σ]? = some (vA Δ σ, .inl (Δ.2.2.1 .byte, vL σ, .inl (vF σ))) := by
  unfold vQ vA vL vF
  by_cases h : rN (σ.2.2 201 6) = 0
  · simp only [if_pos h]
    rw [wsO_at (by decide), cellO_ar (len := 16) (ty := .byte) rfl rfl]
  · simp only [if_neg h]
    exact v_rowA h
theorem v_set {Δ : Dx} {σ : St} {f : Nat → Int32} (hf : ∀ k, fits .byte (.int (f k)) = true) : (Δ.W NN σ).set (vQ σ) (vA Δ σ, .inl (Δ.2.2.1 .byte, vL σ, .inl f)) = Δ.W NN (vS σ f) := by
  by_cases h : rN (σ.2.2 201 6) = 0
  · have e1 : vQ σ = 56 := if_pos h
    have e2 : vA Δ σ = Δ.ba + 56 := if_pos h
    have e3 : vL σ = 16 := if_pos h
    have e4 : vS σ f = (upA σ.1 56 f, σ.2) := if_pos h
    rw [e1, e2, e3, e4]
    have e : (Sum.inl (Δ.2.2.1 .byte, 16, Sum.inl f) : va_E) = cellO Δ.2.2.1 (upA σ.1 56 f, σ.2) 56 := by
      rw [cellO_ar (len := 16) (ty := .byte) rfl rfl]
      show _ = Sum.inl (Δ.2.2.1 .byte, 16, Sum.inl (upA σ.1 56 f 56))
      rw [upA_s]
    rw [e]
    exact wsO_set (by decide) (fun b hb => cellO_w (upA_n hb) rfl rfl)
  · have e1 : vQ σ = 142 := if_neg h
    have e2 : vA Δ σ = Δ.ba + 142 + rN (σ.2.2 201 7) := if_neg h
    have e3 : vL σ = rN (σ.2.2 201 6) := if_neg h
    have e4 : vS σ f = (σ.1, upA σ.2.1 200 (fun k => (f k).toInt64), σ.2.2) := if_neg h
    rw [e1, e2, e3, e4, W_cut, W_cut, W_low (σ := σ) (σ' := (σ.1, upA σ.2.1 200 (fun k => (f k).toInt64), σ.2.2)) (fun a ha => cellO_w rfl (show upA σ.2.1 200 (fun k => (f k).toInt64) a = σ.2.1 a from upA_n (show a ≠ 200 by omega)) rfl), dyB_c (σ := σ) (σ' := (σ.1, upA σ.2.1 200 (fun k => (f k).toInt64), σ.2.2)) (show upA σ.2.1 200 (fun k => (f k).toInt64) 202 = σ.2.1 202 from upA_n (by decide)) rfl rfl, dyA_1 h, dyA_1 (σ := (σ.1, upA σ.2.1 200 (fun k => (f k).toInt64), σ.2.2)) h]
    rw [List.set_append_right _ _ (by rw [List.length_map, List.length_range]; exact Nat.le_refl _), List.length_map, List.length_range]
    congr 1
    show (_, Sum.inl (_, _, Sum.inl f)) :: _ = (_, Sum.inl (_, _, Sum.inl (fun k => btJ (upA σ.2.1 200 (fun k => (f k).toInt64) 200 k)))) :: _
    rw [upA_s, bt_fit hf]
theorem vS_3 {σ : St} {f : Nat → Int32} : (vS σ f).2.2 = σ.2.2 := by
  unfold vS
  by_cases h : rN (σ.2.2 201 6) = 0
  · rw [if_pos h]
  · rw [if_neg h]
theorem vS_1 {σ : St} {f : Nat → Int32} {a : Nat} (ha : a ≠ 56) : (vS σ f).1 a = σ.1 a := by
  unfold vS
  by_cases h : rN (σ.2.2 201 6) = 0
  · rw [if_pos h]; exact upA_n ha
  · rw [if_neg h]
theorem vS_2 {σ : St} {f : Nat → Int32} {a : Nat} (ha : a ≠ 200) : (vS σ f).2.1 a = σ.2.1 a := by
  unfold vS
  by_cases h : rN (σ.2.2 201 6) = 0
  · rw [if_pos h]
  · rw [if_neg h]; exact upA_n ha
theorem vS_F {σ : St} {f : Nat → Int32} (hf : ∀ k, fits .byte (.int (f k)) = true) : vF (vS σ f) = f := by
  by_cases h : rN (σ.2.2 201 6) = 0
  · rw [show vF (vS σ f) = (vS σ f).1 56 from if_pos (by rw [vS_3]; exact h), show vS σ f = (upA σ.1 56 f, σ.2) from if_pos h]
    show upA σ.1 56 f 56 = f
    exact upA_s
  · rw [show vF (vS σ f) = (fun k => btJ ((vS σ f).2.1 200 k)) from if_neg (by rw [vS_3]; exact h), show vS σ f = (σ.1, upA σ.2.1 200 (fun k => (f k).toInt64), σ.2.2) from if_neg h]
    show (fun k => btJ (upA σ.2.1 200 (fun k => (f k).toInt64) 200 k)) = f
    rw [upA_s, bt_fit hf]
theorem vS_L {σ : St} {f : Nat → Int32} : vL (vS σ f) = vL σ := by
  unfold vL
  rw [vS_3]
theorem vS_A {Δ : Dx} {σ : St} {f : Nat → Int32} : vA Δ (vS σ f) = vA Δ σ := by
  unfold vA
  rw [vS_3]
theorem vS_b {σ : St} {f : Nat → Int32} (hf : ∀ k, fits .byte (.int (f k)) = true) (h : Vb σ) : Vb (vS σ f) := by
  unfold Vb vS
  by_cases z : rN (σ.2.2 201 6) = 0
  · rw [if_pos z]
    show ∀ k, fits .byte (.int (upA σ.1 56 f 56 k)) = true
    rw [upA_s]
    exact hf
  · rw [if_neg z]
    exact h
theorem upd_fit {f : Nat → Int32} {i : Nat} {x : Int32} (hf : ∀ k, fits .byte (.int (f k)) = true) (hx : fits .byte (.int x) = true) : ∀ k, fits .byte (.int (upd f i x k)) = true := by
  intro k
  unfold upd
  split
  · exact hx
  · exact hf k
theorem cpy_fit {f g : Nat → Int32} {sp dp n : Nat} (hf : ∀ i, i < n → fits .byte (.int (f (sp + i))) = true) (hg : ∀ k, fits .byte (.int (g k)) = true) : ∀ k, fits .byte (.int (va_cpy f g sp dp n k)) = true := by
  intro k
  unfold va_cpy
  split
  · rename_i h
    exact hf (k - dp) (by omega)
  · exact hg k
section VRows
variable {Δ : Dx} {mi : MI} {Γ : Cx} {k c : Nat} {σ : St} {pc : Nat} {lv : List (Option Value)} {rest st : List Value} {idx : Nat}
theorem g_sub {σ' : St} (h : ∀ x, x ∈ Δ.W NN σ' → x ∈ Δ.W NN σ) (kk : GG Δ mi Γ NN k c σ' pc lv st) : GG Δ mi Γ NN k c σ pc lv st := fun ok H locs ls hP hS hl => kk ok H locs ls (fun i x hx => by
  obtain ⟨j, hj⟩ := List.getElem?_of_mem (h x (List.mem_of_getElem? hx))
  exact hP j x hj) hS hl
theorem g_more {k' c' : Nat} (hk : k ≤ k') (hc : c ≤ c') (kk : GG Δ mi Γ NN k' c' σ pc lv st) : GG Δ mi Γ NN k c σ pc lv st := fun ok H locs ls hP hS hl => by
  intro T hT X
  exact kk ok H locs ls hP hS hl T hT { X with same := X.same.mono hk hc }
theorem g_alenV {a : Nat} {v : Int32} (hdg : decode mi.2.1 pc = .ok (.arraylength, 1)) (ha : a = vA Δ σ) (hv : nI (vL σ) = v) (kk : GG Δ mi Γ NN k c σ (pc + 1) lv (.int v :: rest)) : GG Δ mi Γ NN k c σ pc lv (.ref a :: rest) := fun ok H locs ls hP hS hl => by
  subst ha
  exact va_alen (D := Δ.2.1) (cl := vcl) (tys := tysO Δ.2.2.1) (ty := .byte) ok.1 ok.2.1 ok.2.2.2.2.2.2.2.1.1 hP (vQ σ) 3 v_row rfl hv hdg (kk ok H locs ls hP hS hl)
theorem g_baldV {a : Nat} {i : Int32} (hdg : decode mi.2.1 pc = .ok (.baload, 1)) (ha : a = vA Δ σ) (hin : vp_in i (vL σ)) (kk : GG Δ mi Γ NN k c σ (pc + 1) lv (.int (vF σ i.toNatClampNeg) :: rest)) : GG Δ mi Γ NN k c σ pc lv (.int i :: .ref a :: rest) := fun ok H locs ls hP hS hl => by
  subst ha
  exact va_bald (D := Δ.2.1) (cl := vcl) (tys := tysO Δ.2.2.1) ok.1 ok.2.1 ok.2.2.2.2.2.2.2.1.1 hP (vQ σ) 3 v_row rfl hin hdg (kk ok H locs ls hP hS hl)
theorem g_bastV {a : Nat} {i x : Int32} (hdg : decode mi.2.1 pc = .ok (.bastore, 1)) (ha : a = vA Δ σ) (hb : Vb σ) (hin : vp_in i (vL σ)) (kk : GG Δ mi Γ NN k c (vS σ (upd (vF σ) i.toNatClampNeg (vp_nar .byte x))) (pc + 1) lv rest) : GG Δ mi Γ NN k c σ pc lv (.int x :: .int i :: .ref a :: rest) := fun ok H locs ls hP hS hl => by
  subst ha
  refine va_bast (D := Δ.2.1) (cl := vcl) (tys := tysO Δ.2.2.1) ok.1 ok.2.1 ok.2.2.2.2.2.2.2.1.1 hP wsO_D hS (vQ σ) 3 v_row rfl hin hdg (fun H1 locs1 hP1 _ hS1 => ?_)
  rw [v_set (upd_fit (vF_fit hb) (fit_nar x))] at hP1
  exact kk ok H1 locs1 ls hP1 hS1 hl
/-- a string's bytes into the line -/
theorem g_copyV {a b0 n0 : Nat} {f : Nat → Int32} {sp dp m : Int32} (hdg : decode mi.2.1 pc = .ok (.invokestatic idx, 3)) (hl0 : Cond.methodLink mi.1.cls idx arraycopyName ∈ tb) (h1 : 1 ≤ Γ.k) (hw : (rest.map fun v => v.category).sum ≤ 8) (ha : a = vA Δ σ) (hT : va_T .byte b0 n0 (fun j => .int (f j)) Δ.A Δ.s0 Δ.s0.heap) (hv : Vb σ) (hs0 : ¬ sp < 0) (hd0 : ¬ dp < 0) (hm0 : ¬ m < 0) (hsm : sp.toNatClampNeg + m.toNatClampNeg ≤ n0) (hdm : dp.toNatClampNeg + m.toNatClampNeg ≤ vL σ) (hfit : ∀ i : Nat, i < m.toNatClampNeg → fits .byte (.int (f (sp.toNatClampNeg + i))) = true)
    (kk : GG Δ mi Γ NN k c (vS σ (va_cpy f (vF σ) sp.toNatClampNeg dp.toNatClampNeg m.toNatClampNeg)) (pc + 3) lv rest) : GG Δ mi Γ NN k c σ pc lv (.int m :: .int dp :: .ref a :: .int sp :: .ref b0 :: rest) := fun ok H locs ls hP hS hl => by
  subst ha
  obtain ⟨hx, hb, hml, hown, hts, hr, hlk, hK, hnm, hsz, hf, hlo⟩ := id ok
  refine vk_copyt hx hb (by rw [hml]; exact hl.1.symm) hown (hts _ hl0) (hts _ aw_1.1) (hts _ aw_1.2.1) (hts _ aw_1.2.2) hK.1 hP wsO_D hS ((va_T.moved hK.2.2.2.2.1.alike hT).kept (kx_kept hK)) (vQ σ) 3 (tys := tysO Δ.2.2.1) v_row rfl hs0 hd0 hm0 hsm hdm hfit (by omega) (by
    have : nativeFrameWords "java/lang/System" "arraycopy" 5 ≤ 40 := by decide
    omega) hdg (fun H1 locs1 hP1 _ hS1 => ?_)
  rw [v_set (cpy_fit hfit (vF_fit hv))] at hP1
  exact kk ok H1 locs1 ls hP1 hS1 hl
end VRows
/-- a new row beside the line's -/
def nB (σ : St) (N off : Nat) (f : Nat → Int32) : St := (σ.1, upA σ.2.1 202 (fun k => (f k).toInt64), upA σ.2.2 203 (fun j => if j = 6 then .ref N else .ref off))
theorem nB_J {σ : St} {N off a : Nat} {f : Nat → Int32} (h : a ≠ 202) : (nB σ N off f).2.1 a = σ.2.1 a := if_neg h
theorem nB_V {σ : St} {N off a : Nat} {f : Nat → Int32} (h : a ≠ 203) : (nB σ N off f).2.2 a = σ.2.2 a := if_neg h
theorem W_nB {Δ : Dx} {σ : St} {N off : Nat} {f : Nat → Int32} (hf : ∀ k, fits .byte (.int (f k)) = true) (h0 : rN (σ.2.2 203 6) = 0) (hN : N ≠ 0) : Δ.W NN (nB σ N off f) = Δ.W NN σ ++ [(Δ.ba + 142 + bO σ.2.2 + off, .inl (Δ.2.2.1 .byte, N, .inl f))] := by
  have e6 : rN ((nB σ N off f).2.2 203 6) = N := by
    show rN (upA σ.2.2 203 (fun j => if j = 6 then .ref N else .ref off) 203 6) = N
    rw [upA_s]
    rfl
  have e7 : rN ((nB σ N off f).2.2 203 7) = off := by
    show rN (upA σ.2.2 203 (fun j => if j = 6 then .ref N else .ref off) 203 7) = off
    rw [upA_s]
    rfl
  have eb : bO (nB σ N off f).2.2 = bO σ.2.2 := by
    unfold bO
    rw [show (nB σ N off f).2.2 201 = σ.2.2 201 from nB_V (by decide)]
  have ej : (fun k => btJ ((nB σ N off f).2.1 202 k)) = f := by
    show (fun k => btJ (upA σ.2.1 202 (fun k => (f k).toInt64) 202 k)) = f
    rw [upA_s, bt_fit hf]
  rw [W_cut, W_cut, W_low (σ := σ) (σ' := nB σ N off f) (fun a ha => cellO_w rfl (nB_J (show a ≠ 202 by omega)) (nB_V (show a ≠ 203 by omega))), dyA_c (σ := σ) (σ' := nB σ N off f) (nB_J (by decide)) (nB_V (by decide)), dyB_0 h0, List.append_nil, List.append_assoc]
  congr 2
  unfold dyB
  rw [e6, e7, eb, ej, if_neg hN]
section BRows
variable {Δ : Dx} {mi : MI} {Γ : Cx} {k c : Nat} {σ : St} {pc : Nat} {lv : List (Option Value)} {rest st : List Value} {idx : Nat}
theorem g_newB {v : Int32} {N : Nat} (hdg : decode mi.2.1 pc = .ok (.newarray .byte, 2)) (h0 : rN (σ.2.2 203 6) = 0) (hv : ¬ v < 0) (hN : v.toNatClampNeg = N) (hN0 : N ≠ 0) (hby : N ≤ 536870912) (hc : k + 1 ≤ Γ.R.cells) (hs : c + N ≤ Γ.R.slots)
    (kk : ∀ off, GG Δ mi Γ NN (k + 1) (c + N) (nB σ N off (fun _ => 0)) (pc + 2) lv (.ref (Δ.ba + 142 + bO σ.2.2 + off) :: st)) : GG Δ mi Γ NN k c σ pc lv (.int v :: st) := fun ok H locs ls hP hS hl => by
  obtain ⟨hx, hb, hml, hown, hts, hr, hlk, hK, hnm, hsz, hf, hlo⟩ := id ok
  refine va_newaK (h := H.size) hx hb (hts _ (tk1 149 rfl rfl)) rfl hdg rfl hv hN (by show N * 1 ≤ 536870912; omega) hc hs rfl fun H1 cA e1 z1 o1 hAr hNm => ?_
  have hk : ∀ (k : Nat) (x : Nat × va_E), (Δ.W NN σ)[k]? = some x → H1[x.1]? = H[x.1]? := fun k x hx => o1 x.1 (hP k x hx).lt
  have hcA : cA = Δ.2.2.1 .byte := by
    have h1 := (hK.1.2 3 (Δ.2.2.1 .byte, .byte) rfl).2
    exact Option.some.inj (hNm.symm.trans h1)
  have hge : Δ.ba + 142 + bO σ.2.2 ≤ H.size := by
    have h1 : Δ.ba + 141 < H.size := (hP 141 _ (wsO_at (by decide))).lt
    unfold bO
    by_cases h : rN (σ.2.2 201 6) = 0
    · rw [if_pos h]; omega
    · rw [if_neg h]
      have h2 : Δ.ba + 142 + rN (σ.2.2 201 7) < H.size := (hP 142 _ (v_rowA h)).lt
      omega
  obtain ⟨off, ho⟩ := Nat.exists_eq_add_of_le hge
  have hkk := kk off ok H1 locs ls (by
    rw [W_nB (fun _ => rfl) h0 hN0]
    refine (hP.kept hk).app (fun k x hx => ?_)
    have hz : k < 1 := (List.getElem?_eq_some_iff.mp hx).1
    rw [show k = 0 by omega] at hx
    cases hx
    show H1[Δ.ba + 142 + bO σ.2.2 + off]? = some (vp_cell _ _)
    rw [← ho, e1, hcA, vp_cell_i]
    rfl) ⟨Nat.le_trans hS.1 (by omega), fun x h1 h2 => (o1 x (Nat.lt_of_lt_of_le h1 hS.1)).trans (hS.2.1 x h1 h2), hS.2.2⟩ hl
  rw [← ho] at hkk
  exact hkk
/-- the line's bytes into the new row -/
theorem g_copyB {N off : Nat} {m : Int32} (hdg : decode mi.2.1 pc = .ok (.invokestatic idx, 3)) (hl0 : Cond.methodLink mi.1.cls idx arraycopyName ∈ tb) (h1 : 1 ≤ Γ.k) (hw : (rest.map fun v => v.category).sum ≤ 8) (h0 : rN (σ.2.2 203 6) = 0) (hN0 : N ≠ 0) (hv : Vb σ) (hm0 : ¬ m < 0) (hm : m.toNatClampNeg = vL σ) (hLN : vL σ ≤ N)
    (kk : GG Δ mi Γ NN k c (nB σ N off (va_cpy (vF σ) (fun _ => 0) 0 0 (vL σ))) (pc + 3) lv rest) : GG Δ mi Γ NN k c (nB σ N off (fun _ => 0)) pc lv (.int m :: .int 0 :: .ref (Δ.ba + 142 + bO σ.2.2 + off) :: .int 0 :: .ref (vA Δ σ) :: rest) := fun ok H locs ls hP hS hl => by
  obtain ⟨hx, hb, hml, hown, hts, hr, hlk, hK, hnm, hsz, hf, hlo⟩ := id ok
  have hD : va_D Δ.A (Δ.W NN (nB σ N off (fun _ => 0))) := wsO_D
  rw [W_nB (fun _ => rfl) h0 hN0] at hP hD
  have hq : vQ σ < (Δ.W NN σ).length := (List.getElem?_eq_some_iff.mp (v_row (Δ := Δ))).1
  have ha0 : (Δ.W NN σ ++ [(Δ.ba + 142 + bO σ.2.2 + off, .inl (Δ.2.2.1 .byte, N, .inl (fun _ => 0)))])[vQ σ]? = some (vA Δ σ, .inl (Δ.2.2.1 .byte, vL σ, .inl (vF σ))) := by
    rw [List.getElem?_append_left hq]
    exact v_row
  have ha1 : (Δ.W NN σ ++ [(Δ.ba + 142 + bO σ.2.2 + off, .inl (Δ.2.2.1 .byte, N, .inl (fun _ => 0)))])[(Δ.W NN σ).length]? = some (Δ.ba + 142 + bO σ.2.2 + off, .inl (Δ.2.2.1 .byte, N, .inl (fun _ => 0))) := by
    rw [List.getElem?_append_right (Nat.le_refl _), Nat.sub_self]
    rfl
  refine va_copyi hx hb (by rw [hml]; exact hl.1.symm) hown (hts _ hl0) (hts _ aw_1.1) (hts _ aw_1.2.1) (hts _ aw_1.2.2) hK.1 hP hD hS (vQ σ) (Δ.W NN σ).length 3 3 (tys := tysO Δ.2.2.1) (ty := .byte) ha0 ha1 rfl rfl rfl (by decide) (by decide) hm0 (by rw [hm]; exact Nat.le_of_eq (Nat.zero_add _)) (by rw [hm]; exact Nat.le_trans (Nat.le_of_eq (Nat.zero_add _)) hLN) (fun i _ => vF_fit hv _) (by omega) (by
    have : nativeFrameWords "java/lang/System" "arraycopy" 5 ≤ 40 := by decide
    omega) hdg (fun H1 locs1 hP1 _ hS1 => ?_)
  rw [List.set_append_right _ _ (Nat.le_refl _), Nat.sub_self, hm, show (0 : Int32).toNatClampNeg = 0 from rfl] at hP1
  refine kk ok H1 locs1 ls ?_ hS1 hl
  rw [W_nB (cpy_fit (fun i _ => vF_fit hv _) (fun _ => rfl)) h0 hN0]
  exact hP1
end BRows
/-- the new row is the line's from now on -/
def mvB (Δ : Dx) (σ : St) (N off : Nat) (f : Nat → Int32) : St := (σ.1, upA σ.2.1 200 (fun k => (f k).toInt64), upA (upA σ.2.2 55 (updV (σ.2.2 55) 0 (.ref (Δ.ba + 142 + (bO σ.2.2 + off))))) 201 (fun j => if j = 6 then .ref N else .ref (bO σ.2.2 + off)))
theorem mvB_J {Δ : Dx} {σ : St} {N off a : Nat} {f : Nat → Int32} (h : a ≠ 200) : (mvB Δ σ N off f).2.1 a = σ.2.1 a := if_neg h
theorem mvB_V {Δ : Dx} {σ : St} {N off a : Nat} {f : Nat → Int32} (h1 : a ≠ 55) (h2 : a ≠ 201) : (mvB Δ σ N off f).2.2 a = σ.2.2 a := (if_neg h2).trans (if_neg h1)
theorem mvB_5 {Δ : Dx} {σ : St} {N off : Nat} {f : Nat → Int32} : (mvB Δ σ N off f).2.2 55 = updV (σ.2.2 55) 0 (.ref (Δ.ba + 142 + (bO σ.2.2 + off))) := by
  unfold mvB
  dsimp only
  rw [upA_n (by decide), upA_s]
theorem stR_V {σ : St} {a b k : Nat} {v : Value} (h : b ≠ a) : (stR σ a k v).2.2 b = σ.2.2 b := if_neg h
theorem mvB_201 {Δ : Dx} {σ : St} {N off : Nat} {f : Nat → Int32} : rN ((mvB Δ σ N off f).2.2 201 6) = N ∧ rN ((mvB Δ σ N off f).2.2 201 7) = bO σ.2.2 + off := by
  have e : (mvB Δ σ N off f).2.2 201 = (fun j => if j = 6 then .ref N else .ref (bO σ.2.2 + off)) := by
    unfold mvB
    dsimp only
    rw [upA_s]
  rw [e]
  exact ⟨rfl, rfl⟩
theorem W_mvB {Δ : Dx} {σ : St} {N off : Nat} {f : Nat → Int32} (hf : ∀ k, fits .byte (.int (f k)) = true) (h0 : rN (σ.2.2 203 6) = 0) (hN : N ≠ 0) : ∀ x, x ∈ Δ.W NN (mvB Δ σ N off f) → x ∈ Δ.W NN (stR (nB σ N off f) 55 0 (.ref (Δ.ba + 142 + bO σ.2.2 + off))) := by
  have ej : (fun k => btJ ((mvB Δ σ N off f).2.1 200 k)) = f := by
    show (fun k => btJ (upA σ.2.1 200 (fun k => (f k).toInt64) 200 k)) = f
    rw [upA_s, bt_fit hf]
  have hb0 : rN ((mvB Δ σ N off f).2.2 203 6) = 0 := by
    rw [show (mvB Δ σ N off f).2.2 203 = σ.2.2 203 from mvB_V (by decide) (by decide)]
    exact h0
  have hW : Δ.W NN (stR (nB σ N off f) 55 0 (.ref (Δ.ba + 142 + bO σ.2.2 + off))) = (List.range 142).map (fun a => (Δ.ba + a, cellO Δ.2.2.1 (stR (nB σ N off f) 55 0 (.ref (Δ.ba + 142 + bO σ.2.2 + off))) a)) ++ (dyA Δ.2.2.1 Δ.ba σ ++ [(Δ.ba + 142 + bO σ.2.2 + off, .inl (Δ.2.2.1 .byte, N, .inl f))]) := by
    have h := W_nB (Δ := Δ) (off := off) hf h0 hN
    rw [W_cut, W_cut (σ := σ), dyB_0 h0, List.append_nil, List.append_assoc, W_low (σ := σ) (σ' := nB σ N off f) (fun a ha => cellO_w rfl (nB_J (show a ≠ 202 by omega)) (nB_V (show a ≠ 203 by omega)))] at h
    have h' := List.append_cancel_left h
    rw [W_cut, dyA_c (σ := nB σ N off f) (σ' := stR (nB σ N off f) 55 0 (.ref (Δ.ba + 142 + bO σ.2.2 + off))) rfl (stR_V (by decide)), dyB_c (σ := nB σ N off f) (σ' := stR (nB σ N off f) 55 0 (.ref (Δ.ba + 142 + bO σ.2.2 + off))) rfl (stR_V (by decide)) (stR_V (by decide)), h']
  intro x hx
  rw [hW]
  rw [W_cut, dyB_0 hb0, List.append_nil, dyA_1 (by rw [mvB_201.1]; exact hN), ej, mvB_201.1, mvB_201.2, W_low (σ := stR (nB σ N off f) 55 0 (.ref (Δ.ba + 142 + bO σ.2.2 + off))) (σ' := mvB Δ σ N off f) (fun a ha => cellO_w rfl ((mvB_J (show a ≠ 200 by omega)).trans (nB_J (σ := σ) (N := N) (off := off) (f := f) (show a ≠ 202 by omega)).symm) (by
    by_cases h5 : a = 55
    · rw [h5, mvB_5]
      show _ = upA (nB σ N off f).2.2 55 (updV ((nB σ N off f).2.2 55) 0 (.ref (Δ.ba + 142 + bO σ.2.2 + off))) 55
      rw [upA_s, nB_V (by decide), ← Nat.add_assoc]
    · rw [mvB_V h5 (by omega), stR_V h5, nB_V (by omega)]))] at hx
  rcases List.mem_append.mp hx with h | h
  · exact List.mem_append_left _ h
  · rw [← Nat.add_assoc] at h
    exact List.mem_append_right _ (List.mem_append_right _ h)
theorem mvB_L {Δ : Dx} {σ : St} {N off : Nat} {f : Nat → Int32} (hN : N ≠ 0) : vL (mvB Δ σ N off f) = N := by
  unfold vL
  rw [mvB_201.1, if_neg hN]
theorem mvB_F {Δ : Dx} {σ : St} {N off : Nat} {f : Nat → Int32} (hf : ∀ k, fits .byte (.int (f k)) = true) (hN : N ≠ 0) : vF (mvB Δ σ N off f) = f := by
  unfold vF
  rw [mvB_201.1, if_neg hN]
  show (fun k => btJ (upA σ.2.1 200 (fun k => (f k).toInt64) 200 k)) = f
  rw [upA_s, bt_fit hf]
theorem mvB_D {Δ : Dx} {σ : St} {N off : Nat} {f : Nat → Int32} (h0 : rN (σ.2.2 203 6) = 0) (hN : N = 34 ∨ N = 70) : DYX Δ (mvB Δ σ N off f).2.2 := by
  refine ⟨?_, Or.inr ⟨by rw [mvB_201.1]; exact hN, ?_⟩⟩
  · rw [show (mvB Δ σ N off f).2.2 203 = σ.2.2 203 from mvB_V (by decide) (by decide)]
    exact h0
  · rw [mvB_201.2, mvB_5]
    rfl
/-! returns of a method that leaves one of several states -/
section ERet
variable {Δ : Dx} {mi : MI} {Γ : Cx} {k c : Nat} {σ : St} {pc : Nat} {lv : List (Option Value)} {rf : St → Option Value} {P : St → Prop} {mc ms : Nat}
theorem g_iretE {v : Int32} (hm : mi.2.2.2 = some .int) (hdg : decode mi.2.1 pc = .ok (.ireturn, 1)) (ht : TgE Δ Γ rf P mc ms) (hk : k ≤ mc) (hc : c ≤ ms) (hP : P σ) (hr : rf σ = some (.int v)) : GG Δ mi Γ NN k c σ pc lv [.int v] := g_more hk hc fun ok H locs ls hP2 hS hl => by
  rw [show Γ.Q = _ from ht]
  have hlk : Γ.meth.locks = false := ok.2.2.2.2.2.2.1
  exact W.iret ok.1 ok.2.1 (ok.2.2.2.2.2.1.trans hm) (fun t hT hW => ⟨σ, hP, by rw [hr], by rw [hT]; exact hP2, hS.F hT⟩) hS.2.2 hdg hlk
theorem g_vretE (hm : mi.2.2.2 = none) (hdg : decode mi.2.1 pc = .ok (.return_, 1)) (ht : TgE Δ Γ rf P mc ms) (hk : k ≤ mc) (hc : c ≤ ms) (hP : P σ) (hr : rf σ = none) : GG Δ mi Γ NN k c σ pc lv [] := g_more hk hc fun ok H locs ls hP2 hS hl => by
  rw [show Γ.Q = _ from ht]
  have hlk : Γ.meth.locks = false := ok.2.2.2.2.2.2.1
  exact W.vret ok.1 ok.2.1 (ok.2.2.2.2.2.1.trans hm) (fun t hT hW => ⟨σ, hP, by rw [hr], by rw [hT]; exact hP2, hS.F hT⟩) hS.2.2 hdg hlk
theorem g_aretE {q : Nat} {ty : FieldType} (hm : mi.2.2.2 = some ty) (hty : (∃ nm, ty = .object nm) ∨ (∃ t, ty = .array t)) (hdg : decode mi.2.1 pc = .ok (.areturn, 1)) (ht : TgE Δ Γ rf P mc ms) (hk : k ≤ mc) (hc : c ≤ ms) (hP : P σ) (hr : rf σ = some (.ref q)) : GG Δ mi Γ NN k c σ pc lv [.ref q] := g_more hk hc fun ok H locs ls hP2 hS hl => by
  rw [show Γ.Q = _ from ht]
  have hlk : Γ.meth.locks = false := ok.2.2.2.2.2.2.1
  exact W.aret ok.1 ok.2.1 (ok.2.2.2.2.2.1.trans hm) hty (Or.inr ⟨q, rfl⟩) (fun t hT hW => ⟨σ, hP, by rw [hr], by rw [hT]; exact hP2, hS.F hT⟩) hS.2.2 hdg hlk
end ERet
