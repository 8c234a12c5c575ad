/-! the start: the class's ints -/
theorem iR {σ : St} {a j : Nat} {v : Value} : (stR σ a j v).1 = σ.1 := rfl
theorem iI {σ : St} {a j : Nat} {v : Int32} : (stI σ a j v).1 = up σ.1 a j v := rfl
theorem iF {σ : St} {a N : Nat} {v : Int32} : (fillI σ a N v).1 = fil σ.1 a N v := rfl
def mI (I : IM) (m : Nat) : IM := up (up (up (up (up (up I (m + 15) 2 8) (m + 15) 3 25) (m + 17) 2 16) (m + 17) 3 6) m 1 (-1)) m 2 (-1)
def eI : IM := mI (mI (fil (up (fil (mI (fil (fun _ _ => 0) 13 22 (-1)) 16) 53 22 (-1)) 55 1 0) 62 22 (-1)) 64) 83
theorem en_I {Δ : Dx} : (s_Eng0 Δ σ0).1 = eI := by
  have h := rd_I (Δ := Δ) (σ := σ0)
  unfold s_Eng0
  generalize s_Rdr1 Δ σ0 = ρ at h ⊢
  simp only [s_Mch83, s_Rng100, s_Rng98, s_Mch64, s_Rng81, s_Rng79, s_Pol57, s_Sbd55, s_Pol48, s_Cmp40, s_Wrk45, s_Wrk42, s_Stp35, s_Wrk36, s_Img15, s_Mch16, s_Rng33, s_Rng31, s_Prd7, s_Pol8, iR, iI, iF, h]
  rfl
theorem mI_at {I : IM} {m b j : Nat} : mI I m b j = if b = m ∧ j = 2 then -1 else if b = m ∧ j = 1 then -1 else if b = m + 17 ∧ j = 3 then 6 else if b = m + 17 ∧ j = 2 then 16 else if b = m + 15 ∧ j = 3 then 25 else if b = m + 15 ∧ j = 2 then 8 else I b j := by
  unfold mI
  simp only [up_at]
/-- the class's rows at the start: all 0 but what is named here -/
theorem eI_0 {b : Nat} (h : b ∉ [13, 16, 31, 33, 53, 55, 62, 64, 79, 81, 83, 98, 100]) : ∀ j, eI b j = 0 := by
  intro j
  simp only [List.mem_cons, List.not_mem_nil, or_false, not_or] at h
  unfold eI
  simp [mI_at, up_at, fil_at, h]
theorem eI_k {m : Nat} (h : isMch m) : eI m 0 = 0 ∧ eI m 1 = -1 ∧ eI m 2 = -1 ∧ eI (m + 15) 0 = 0 ∧ eI (m + 15) 1 = 0 ∧ eI (m + 15) 2 = 8 ∧ eI (m + 15) 3 = 25 ∧ eI (m + 17) 0 = 0 ∧ eI (m + 17) 1 = 0 ∧ eI (m + 17) 2 = 16 ∧ eI (m + 17) 3 = 6 := by
  rcases h with rfl | rfl | rfl <;> simp [eI, mI_at, up_at, fil_at]
