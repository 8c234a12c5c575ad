/-! the class's constructors, instance by instance: cell numbers in the order of making -/
theorem fS {σ : St} {n : Nat} (h : ∀ a, n ≤ a → Fresh σ a) : ∀ a, n + 1 ≤ a → Fresh σ a := fun a ha => h a (by omega)
theorem fR {σ : St} {n b j : Nat} {v : Value} (h : ∀ a, n ≤ a → Fresh σ a) (hb : b < n) : ∀ a, n ≤ a → Fresh (stR σ b j v) a := fun a ha => by
  have hne : a ≠ b := by omega
  obtain ⟨h1, h2, h3⟩ := h a ha
  refine ⟨h1, h2, fun i => ?_⟩
  show upA σ.2.2 b _ a i = _
  unfold upA
  rw [if_neg hne]
  exact h3 i
theorem fI {σ : St} {n b j : Nat} {v : Int32} (h : ∀ a, n ≤ a → Fresh σ a) (hb : b < n) : ∀ a, n ≤ a → Fresh (stI σ b j v) a := fun a ha => by
  have hne : a ≠ b := by omega
  obtain ⟨h1, h2, h3⟩ := h a ha
  refine ⟨fun i => ?_, h2, h3⟩
  show upA σ.1 b _ a i = _
  unfold upA
  rw [if_neg hne]
  exact h1 i
theorem fJ {σ : St} {n b j : Nat} {v : Int64} (h : ∀ a, n ≤ a → Fresh σ a) (hb : b < n) : ∀ a, n ≤ a → Fresh (stJ σ b j v) a := fun a ha => by
  have hne : a ≠ b := by omega
  obtain ⟨h1, h2, h3⟩ := h a ha
  refine ⟨h1, fun i => ?_, h3⟩
  show upA σ.2.1 b _ a i = _
  unfold upA
  rw [if_neg hne]
  exact h2 i
theorem fFill {σ : St} {n b N : Nat} {v : Int32} (h : ∀ a, n ≤ a → Fresh σ a) (hb : b < n) : ∀ a, n ≤ a → Fresh (fillI σ b N v) a := fun a ha => by
  have hne : a ≠ b := by omega
  obtain ⟨h1, h2, h3⟩ := h a ha
  refine ⟨fun i => ?_, h2, h3⟩
  show upA σ.1 b _ a i = _
  unfold upA
  rw [if_neg hne]
  exact h1 i
theorem fPk {b n : Nat} : ∀ {l : List Int32} {σ : St} {k : Nat} {p : Int64} (_ : ∀ a, n ≤ a → Fresh σ a) (_ : b < n), ∀ a, n ≤ a → Fresh (pk b l σ k p).1 a
  | [], _, _, _, h, _ => h
  | x :: l, σ, k, p, h, hb => by
    rw [pk]
    split
    · exact fPk (fJ h hb) hb
    · exact fPk h hb
/-- how many words: it hangs on the text alone -/
def pkn : List Int32 → Nat → Nat
  | [], k => k
  | b :: bs, k => if ch8 b = 32 then pkn bs (k + 1) else pkn bs k
theorem pk_pkn {a : Nat} : ∀ (l : List Int32) (σ : St) (k : Nat) (p : Int64), (pk a l σ k p).2 = pkn l k
  | [], _, _, _ => rfl
  | x :: l, σ, k, p => by
    rw [pk, pkn]
    split
    · exact pk_pkn l _ _ _
    · exact pk_pkn l _ _ _
theorem pk_2 {a : Nat} {l : List Int32} {σ : St} {k m : Nat} {p : Int64} (h : pkn l k = m) : (pk a l σ k p).2 = m := (pk_pkn l σ k p).trans h
theorem pk_R {a : Nat} : ∀ (l : List Int32) (σ : St) (k : Nat) (p : Int64), (pk a l σ k p).1.2.2 = σ.2.2
  | [], _, _, _ => rfl
  | x :: l, σ, k, p => by
    rw [pk]
    split
    · exact pk_R l _ _ _
    · exact pk_R l _ _ _
section PutRows
variable {Δ : Dx} {mi : MI} {Γ : Cx} {n k c : Nat} {σ : St} {pc : Nat} {lv : List (Option Value)} {rest : List Value}
theorem g_putR {a ci j idx q : Nat} (hdg : decode mi.2.1 pc = .ok (.putfield idx, 3)) (hf : Fx mi.1.cls idx ci j) (hm : Fm ci j ∨ (Fi mi.1.cls ci j ∧ mi.1.name = "<init>")) (ho : Ob n a ci) (hk : fk (tyF ci j) = 2) (hn : ∀ q : Nat, narrow (tyF ci j) (.ref q) = .ref q) (hfit : ∀ q : Nat, fits (tyF ci j) (.ref q) = true) (kk : GG Δ mi Γ n k c (stR σ a j (.ref q)) (pc + 3) lv rest) : GG Δ mi Γ n k c σ pc lv (.ref q :: .ref (Δ.ba + a) :: rest) := g_put hdg hf hm ho (hn q) (hfit q) (fv_R hk) (fun i h => fv_Rn h) (fun b h => cellO_R h) kk
theorem g_putI {a ci j idx : Nat} {x : Int32} (hdg : decode mi.2.1 pc = .ok (.putfield idx, 3)) (hf : Fx mi.1.cls idx ci j) (hm : Fm ci j ∨ (Fi mi.1.cls ci j ∧ mi.1.name = "<init>")) (ho : Ob n a ci) (hty : tyF ci j = .int) (kk : GG Δ mi Γ n k c (stI σ a j x) (pc + 3) lv rest) : GG Δ mi Γ n k c σ pc lv (.int x :: .ref (Δ.ba + a) :: rest) := g_put hdg hf hm ho (by rw [hty]; rfl) (by rw [hty]; rfl) (fv_I (by rw [hty]; rfl)) (fun i h => fv_In h) (fun b h => cellO_I h) kk
end PutRows
theorem fi_Cmp_1 : Fi "WardEngine$Comparer" 9 1 := fun _ _ _ h => by cases h; exact ⟨rfl, rfl⟩
theorem fi_Cmp_2 : Fi "WardEngine$Comparer" 9 2 := fun _ _ _ h => by cases h; exact ⟨rfl, rfl⟩
theorem fi_Cmp_3 : Fi "WardEngine$Comparer" 9 3 := fun _ _ _ h => by cases h; exact ⟨rfl, rfl⟩
theorem fi_Eng_0 : Fi "WardEngine" 0 0 := fun _ _ _ h => by cases h; exact ⟨rfl, rfl⟩
theorem fi_Eng_1 : Fi "WardEngine" 0 1 := fun _ _ _ h => by cases h; exact ⟨rfl, rfl⟩
theorem fi_Eng_2 : Fi "WardEngine" 0 2 := fun _ _ _ h => by cases h; exact ⟨rfl, rfl⟩
theorem fi_Eng_3 : Fi "WardEngine" 0 3 := fun _ _ _ h => by cases h; exact ⟨rfl, rfl⟩
theorem fi_Eng_4 : Fi "WardEngine" 0 4 := fun _ _ _ h => by cases h; exact ⟨rfl, rfl⟩
theorem fi_Eng_5 : Fi "WardEngine" 0 5 := fun _ _ _ h => by cases h; exact ⟨rfl, rfl⟩
theorem fi_Eng_6 : Fi "WardEngine" 0 6 := fun _ _ _ h => by cases h; exact ⟨rfl, rfl⟩
theorem fi_Img_0 : Fi "WardEngine$ImageReader" 4 0 := fun _ _ _ h => by cases h; exact ⟨rfl, rfl⟩
theorem fi_Mch_3 : Fi "WardEngine$Machine" 5 3 := fun _ _ _ h => by cases h; exact ⟨rfl, rfl⟩
theorem fi_Mch_4 : Fi "WardEngine$Machine" 5 4 := fun _ _ _ h => by cases h; exact ⟨rfl, rfl⟩
theorem fi_Mch_5 : Fi "WardEngine$Machine" 5 5 := fun _ _ _ h => by cases h; exact ⟨rfl, rfl⟩
theorem fi_Mch_6 : Fi "WardEngine$Machine" 5 6 := fun _ _ _ h => by cases h; exact ⟨rfl, rfl⟩
theorem fi_Mch_7 : Fi "WardEngine$Machine" 5 7 := fun _ _ _ h => by cases h; exact ⟨rfl, rfl⟩
theorem fi_Mch_8 : Fi "WardEngine$Machine" 5 8 := fun _ _ _ h => by cases h; exact ⟨rfl, rfl⟩
theorem fi_Mch_9 : Fi "WardEngine$Machine" 5 9 := fun _ _ _ h => by cases h; exact ⟨rfl, rfl⟩
theorem fi_Mch_10 : Fi "WardEngine$Machine" 5 10 := fun _ _ _ h => by cases h; exact ⟨rfl, rfl⟩
theorem fi_Mch_11 : Fi "WardEngine$Machine" 5 11 := fun _ _ _ h => by cases h; exact ⟨rfl, rfl⟩
theorem fi_Mch_12 : Fi "WardEngine$Machine" 5 12 := fun _ _ _ h => by cases h; exact ⟨rfl, rfl⟩
theorem fi_Mch_13 : Fi "WardEngine$Machine" 5 13 := fun _ _ _ h => by cases h; exact ⟨rfl, rfl⟩
theorem fi_Mch_14 : Fi "WardEngine$Machine" 5 14 := fun _ _ _ h => by cases h; exact ⟨rfl, rfl⟩
theorem fi_Mch_15 : Fi "WardEngine$Machine" 5 15 := fun _ _ _ h => by cases h; exact ⟨rfl, rfl⟩
theorem fi_Mch_16 : Fi "WardEngine$Machine" 5 16 := fun _ _ _ h => by cases h; exact ⟨rfl, rfl⟩
theorem fi_Mch_17 : Fi "WardEngine$Machine" 5 17 := fun _ _ _ h => by cases h; exact ⟨rfl, rfl⟩
theorem fi_Mch_18 : Fi "WardEngine$Machine" 5 18 := fun _ _ _ h => by cases h; exact ⟨rfl, rfl⟩
theorem fi_Pol_1 : Fi "WardEngine$Policy" 3 1 := fun _ _ _ h => by cases h; exact ⟨rfl, rfl⟩
theorem fi_Pol_2 : Fi "WardEngine$Policy" 3 2 := fun _ _ _ h => by cases h; exact ⟨rfl, rfl⟩
theorem fi_Pol_3 : Fi "WardEngine$Policy" 3 3 := fun _ _ _ h => by cases h; exact ⟨rfl, rfl⟩
theorem fi_Pol_4 : Fi "WardEngine$Policy" 3 4 := fun _ _ _ h => by cases h; exact ⟨rfl, rfl⟩
theorem fi_Pol_5 : Fi "WardEngine$Policy" 3 5 := fun _ _ _ h => by cases h; exact ⟨rfl, rfl⟩
theorem fi_Pol_6 : Fi "WardEngine$Policy" 3 6 := fun _ _ _ h => by cases h; exact ⟨rfl, rfl⟩
theorem fi_Prd_0 : Fi "WardEngine$PolicyReader" 2 0 := fun _ _ _ h => by cases h; exact ⟨rfl, rfl⟩
theorem fi_Rdr_6 : Fi "WardEngine$Reader" 1 6 := fun _ _ _ h => by cases h; exact ⟨rfl, rfl⟩
theorem fi_Rdr_7 : Fi "WardEngine$Reader" 1 7 := fun _ _ _ h => by cases h; exact ⟨rfl, rfl⟩
theorem fi_Rdr_8 : Fi "WardEngine$Reader" 1 8 := fun _ _ _ h => by cases h; exact ⟨rfl, rfl⟩
theorem fi_Rdr_9 : Fi "WardEngine$Reader" 1 9 := fun _ _ _ h => by cases h; exact ⟨rfl, rfl⟩
theorem fi_Rdr_10 : Fi "WardEngine$Reader" 1 10 := fun _ _ _ h => by cases h; exact ⟨rfl, rfl⟩
theorem fi_Rng_2 : Fi "WardEngine$Ring" 6 2 := fun _ _ _ h => by cases h; exact ⟨rfl, rfl⟩
theorem fi_Rng_3 : Fi "WardEngine$Ring" 6 3 := fun _ _ _ h => by cases h; exact ⟨rfl, rfl⟩
theorem fi_Rng_4 : Fi "WardEngine$Ring" 6 4 := fun _ _ _ h => by cases h; exact ⟨rfl, rfl⟩
theorem fi_Stp_0 : Fi "WardEngine$Stepper" 7 0 := fun _ _ _ h => by cases h; exact ⟨rfl, rfl⟩
theorem fi_Stp_1 : Fi "WardEngine$Stepper" 7 1 := fun _ _ _ h => by cases h; exact ⟨rfl, rfl⟩
theorem fi_Wrk_0 : Fi "WardEngine$Worker" 8 0 := fun _ _ _ h => by cases h; exact ⟨rfl, rfl⟩
theorem fi_Wrk_1 : Fi "WardEngine$Worker" 8 1 := fun _ _ _ h => by cases h; exact ⟨rfl, rfl⟩
def bs_kw : List Int32 := [104, 97, 108, 116, 32, 99, 111, 110, 115, 116, 97, 110, 116, 32, 109, 111, 118, 101, 32, 97, 100, 100, 32, 115, 117, 98, 116, 114, 97, 99, 116, 32, 109, 117, 108, 116, 105, 112, 108, 121, 32, 97, 110, 100, 32, 111, 114, 32, 120, 111, 114, 32, 98, 101, 108, 111, 119, 32, 108, 105, 107, 101, 32, 108, 111, 97, 100, 32, 115, 116, 111, 114, 101, 32, 106, 117, 109, 112, 32, 98, 114, 97, 110, 99, 104, 32, 103, 111, 32, 108, 105, 110, 107, 32, 111, 117, 116, 32, 105, 110, 32, 109, 97, 107, 101, 32, 100, 114, 111, 112, 32, 109, 97, 114, 107, 32]
theorem sr_kw : Cond.stringRef "WardEngine$Reader" 29 "halt constant move add subtract multiply and or xor below like load store jump branch go link out in make drop mark " ∈ lw_tbl := List.mem_append_right _ (List.mem_of_getElem? (i := 47) (by decide +kernel))
theorem sf_kw_0 : FLc[287]? = some (Cond.exactly (.string "WardEngine$Reader" 29) "java/lang/String") := by decide +kernel
theorem sf_kw_4 : ∀ j, j < bs_kw.length → FLc[287 + 4 + j]? = some (Cond.eq (.elem (.field (.string "WardEngine$Reader" 29) "java/lang/String" "value" "[B") (.int (Int32.ofNat j))) (.int (bs_kw.getD j 0))) := by decide +kernel
theorem sg_kw {Δ : Dx} {U : State} (h : Kx Δ U) : Sg Δ (strA Δ "WardEngine$Reader" 29) bs_kw := sg_of h (by decide) sf_kw_0 (by decide +kernel) (by decide +kernel) (by decide +kernel) sf_kw_4
def bs_nw : List Int32 := [112, 99, 32, 97, 32, 98, 32, 99, 32, 118, 97, 32, 118, 98, 32, 118, 99, 32, 119, 32, 111, 32, 105, 32, 110, 32, 99, 111, 100, 101, 32, 98, 101, 102, 111, 114, 101, 32, 99, 108, 101, 97, 114, 32, 102, 114, 101, 115, 104, 32]
theorem sr_nw : Cond.stringRef "WardEngine$Reader" 35 "pc a b c va vb vc w o i n code before clear fresh " ∈ lw_tbl := List.mem_append_right _ (List.mem_of_getElem? (i := 103) (by decide +kernel))
theorem sf_nw_0 : FLc[407]? = some (Cond.exactly (.string "WardEngine$Reader" 35) "java/lang/String") := by decide +kernel
theorem sf_nw_4 : ∀ j, j < bs_nw.length → FLc[407 + 4 + j]? = some (Cond.eq (.elem (.field (.string "WardEngine$Reader" 35) "java/lang/String" "value" "[B") (.int (Int32.ofNat j))) (.int (bs_nw.getD j 0))) := by decide +kernel
theorem sg_nw {Δ : Dx} {U : State} (h : Kx Δ U) : Sg Δ (strA Δ "WardEngine$Reader" 35) bs_nw := sg_of h (by decide) sf_nw_0 (by decide +kernel) (by decide +kernel) (by decide +kernel) sf_nw_4
def bs_ow : List Int32 := [112, 97, 105, 114, 32, 102, 105, 114, 115, 116, 32, 115, 101, 99, 111, 110, 100, 32, 98, 97, 115, 101, 32, 110, 101, 101, 100, 32, 116, 97, 103, 32, 110, 101, 120, 116, 32, 111, 119, 110, 101, 114, 32, 97, 116, 32, 119, 111, 114, 100, 32, 114, 101, 103, 105, 115, 116, 101, 114, 32, 105, 110, 112, 117, 116, 32, 104, 101, 108, 100, 32]
theorem sr_ow : Cond.stringRef "WardEngine$Reader" 37 "pair first second base need tag next owner at word register input held " ∈ lw_tbl := List.mem_append_right _ (List.mem_of_getElem? (i := 104) (by decide +kernel))
theorem sf_ow_0 : FLc[461]? = some (Cond.exactly (.string "WardEngine$Reader" 37) "java/lang/String") := by decide +kernel
theorem sf_ow_4 : ∀ j, j < bs_ow.length → FLc[461 + 4 + j]? = some (Cond.eq (.elem (.field (.string "WardEngine$Reader" 37) "java/lang/String" "value" "[B") (.int (Int32.ofNat j))) (.int (bs_ow.getD j 0))) := by decide +kernel
theorem sg_ow {Δ : Dx} {U : State} (h : Kx Δ U) : Sg Δ (strA Δ "WardEngine$Reader" 37) bs_ow := sg_of h (by decide) sf_ow_0 (by decide +kernel) (by decide +kernel) (by decide +kernel) sf_ow_4
theorem ok_kw : okp bs_kw 0 = true := by decide +kernel
theorem ok_nw : okp bs_nw 22 = true := by decide +kernel
theorem ok_ow : okp bs_ow 37 = true := by decide +kernel
