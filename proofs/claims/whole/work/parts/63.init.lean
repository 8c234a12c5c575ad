/-! the start: refs and longs behind the two constructors -/
theorem pk_I {a : Nat} : ∀ (l : List Int32) (σ : St) (k : Nat) (p : Int64), (pk a l σ k p).1.1 = σ.1
  | [], _, _, _ => rfl
  | x :: l, σ, k, p => by
    rw [pk]
    split
    · exact pk_I l _ _ _
    · exact pk_I l _ _ _
theorem rd_R {Δ : Dx} {σ : St} : (s_Rdr1 Δ σ).2.2 = (stR (stR (stR (stR (stR σ 1 6 (.ref (Δ.ba + 2))) 1 7 (.ref (Δ.ba + 3))) 1 8 (.ref (Δ.ba + 4))) 1 9 (.ref (Δ.ba + 5))) 1 10 (.ref (Δ.ba + 6))).2.2 := by
  unfold s_Rdr1
  rw [pk_R, pk_R, pk_R]
theorem rd_I {Δ : Dx} {σ : St} : (s_Rdr1 Δ σ).1 = σ.1 := by
  unfold s_Rdr1
  rw [pk_I, pk_I, pk_I]
  rfl
set_option maxRecDepth 20000 in
set_option maxHeartbeats 4000000 in
theorem en_fix {Δ : Dx} : ∀ q ∈ fixR, (s_Eng0 Δ σ0).2.2 q.1 q.2.1 = .ref (Δ.ba + q.2.2) := by
  have hR := rd_R (Δ := Δ) (σ := σ0)
  unfold s_Eng0
  generalize s_Rdr1 Δ σ0 = ρ at hR ⊢
  intro q hq
  simp only [fixR, List.mem_cons, List.not_mem_nil, or_false] at hq
  rcases hq with rfl | rfl | rfl | rfl | rfl | rfl | rfl | rfl | rfl | rfl | rfl | rfl | rfl | rfl | rfl | rfl | rfl | rfl | rfl | rfl | rfl | rfl | rfl | rfl | rfl | rfl | rfl | rfl | rfl | rfl | rfl | rfl | rfl | rfl | rfl | rfl | rfl | rfl | rfl | rfl | rfl | rfl | rfl | rfl | rfl | rfl | rfl | rfl | rfl | rfl | rfl | rfl | rfl | rfl | rfl | rfl | rfl | rfl | rfl | rfl | rfl | rfl | rfl | rfl | rfl | rfl | rfl | rfl | rfl | rfl | rfl | rfl | rfl | rfl | rfl | rfl | rfl | rfl | rfl | rfl | rfl | rfl | rfl | rfl | rfl | rfl | rfl | rfl | rfl | rfl | rfl | rfl | rfl | rfl | rfl | rfl | rfl
  · rfl
  · rfl
  · rfl
  · rfl
  · rfl
  · rfl
  · rfl
  · exact congrFun (congrFun hR 1) 6
  · exact congrFun (congrFun hR 1) 7
  · exact congrFun (congrFun hR 1) 8
  · exact congrFun (congrFun hR 1) 9
  · exact congrFun (congrFun hR 1) 10
  · rfl
  · rfl
  · rfl
  · rfl
  · rfl
  · rfl
  · rfl
  · rfl
  · rfl
  · rfl
  · rfl
  · rfl
  · rfl
  · rfl
  · rfl
  · rfl
  · rfl
  · rfl
  · rfl
  · rfl
  · rfl
  · rfl
  · rfl
  · rfl
  · rfl
  · rfl
  · rfl
  · rfl
  · rfl
  · rfl
  · rfl
  · rfl
  · rfl
  · rfl
  · rfl
  · rfl
  · rfl
  · rfl
  · rfl
  · rfl
  · rfl
  · rfl
  · rfl
  · rfl
  · rfl
  · rfl
  · rfl
  · rfl
  · rfl
  · rfl
  · rfl
  · rfl
  · rfl
  · rfl
  · rfl
  · rfl
  · rfl
  · rfl
  · rfl
  · rfl
  · rfl
  · rfl
  · rfl
  · rfl
  · rfl
  · rfl
  · rfl
  · rfl
  · rfl
  · rfl
  · rfl
  · rfl
  · rfl
  · rfl
  · rfl
  · rfl
  · rfl
  · rfl
  · rfl
  · rfl
  · rfl
  · rfl
  · rfl
  · rfl
  · rfl
set_option maxRecDepth 20000 in
theorem en_55 {Δ : Dx} : (s_Eng0 Δ σ0).2.2 55 0 = .ref (Δ.ba + 56) := by
  unfold s_Eng0
  generalize s_Rdr1 Δ σ0 = ρ
  rfl
set_option maxRecDepth 20000 in
theorem en_var {Δ : Dx} : (s_Eng0 Δ σ0).2.2 0 7 = .ref (Δ.ba + 57) ∧ (s_Eng0 Δ σ0).2.2 0 8 = .ref (Δ.ba + 64) ∧ (s_Eng0 Δ σ0).2.2 0 9 = .ref (Δ.ba + 83) ∧ (s_Eng0 Δ σ0).2.2 7 1 = .ref (Δ.ba + 8) ∧ (s_Eng0 Δ σ0).2.2 15 1 = .ref (Δ.ba + 16) := by
  unfold s_Eng0
  generalize s_Rdr1 Δ σ0 = ρ
  exact ⟨rfl, rfl, rfl, rfl, rfl⟩
theorem mA_R {Δ : Dx} {σ : St} {b : Nat} (h : b ≠ 102) : (s_ModB Δ σ).2.2 b = σ.2.2 b := by
  have e : (s_ModB Δ σ).2.2 = (s_ModA Δ σ).2.2 := stJs_R _ _ _
  rw [e]
  have key : ∀ (τ : St) (j : Nat) (v : Value), (stR τ 102 j v).2.2 b = τ.2.2 b := fun τ j v => by
    show upA τ.2.2 102 _ b = _
    unfold upA
    rw [if_neg h]
  have key2 : ∀ (τ : St) (j : Nat) (v : Int32), (stI τ 102 j v).2.2 b = τ.2.2 b := fun τ j v => rfl
  unfold s_ModA
  simp only [key, key2]
theorem ex_0 {Δ : Dx} (h : Kx Δ Δ.s0) : EX Δ (s_ModB Δ (s_Eng0 Δ σ0)).2 57 64 83 8 16 := by
  obtain ⟨v1, v2, v3, v4, v5⟩ := en_var (Δ := Δ)
  refine ⟨fun q hq => ?_, h, ?_, by decide, ?_, by decide, ?_, by decide, ?_, by decide, ?_, by decide, ?_⟩
  · rw [mA_R ((show ∀ q ∈ fixR, q.1 ≠ 102 by decide) q hq)]
    exact en_fix q hq
  · rw [mA_R (by decide)]; exact v1
  · rw [mA_R (by decide)]; exact v2
  · rw [mA_R (by decide)]; exact v3
  · rw [mA_R (by decide)]; exact v4
  · rw [mA_R (by decide)]; exact v5
  · refine DYX_c (V := (s_Eng0 Δ σ0).2.2) (mA_R (by decide)) (mA_R (by decide)) (mA_R (by decide)) ?_
    have hF : ∀ a, 102 ≤ a → Fresh (s_Eng0 Δ σ0) a := fr_Eng0 (fun a _ => fresh0 a)
    refine ⟨by rw [(hF 203 (by decide)).2.2]; rfl, Or.inl ⟨by rw [(hF 201 (by decide)).2.2]; rfl, en_55⟩⟩
