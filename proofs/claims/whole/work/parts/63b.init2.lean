/-! the start: the longs -/
def pkJ : List Int32 → (Nat → Int64) → Nat → Int64 → (Nat → Int64)
  | [], f, _, _ => f
  | b :: bs, f, k, p => if ch8 b = 32 then pkJ bs (vp_updL f k p) (k + 1) 0 else pkJ bs f k (p * 32 + (ch8 b - 97 + 1).toInt64)
theorem pk_J {a : Nat} : ∀ (l : List Int32) (σ : St) (k : Nat) (p : Int64), (pk a l σ k p).1.2.1 a = pkJ l (σ.2.1 a) k p
  | [], _, _, _ => rfl
  | x :: l, σ, k, p => by
    rw [pk, pkJ]
    split
    · rw [pk_J l]
      congr 1
      show upA σ.2.1 a _ a = _
      unfold upA
      rw [if_pos rfl]
    · exact pk_J l _ _ _
theorem knw_ok : ∀ k, k < 50 → pkJ bs_ow (pkJ bs_nw (pkJ bs_kw (fun _ => 0) 0 0) 22 0) 37 0 k = knw.getD k 0 := by decide +kernel
theorem rd_J {Δ : Dx} {k : Nat} (h : k < 50) : (s_Rdr1 Δ σ0).2.1 6 k = knw.getD k 0 := by
  unfold s_Rdr1
  rw [pk_J, pk_J, pk_J]
  exact knw_ok k h
theorem jR {σ : St} {a j : Nat} {v : Value} : (stR σ a j v).2.1 = σ.2.1 := rfl
theorem jI {σ : St} {a j : Nat} {v : Int32} : (stI σ a j v).2.1 = σ.2.1 := rfl
theorem jF {σ : St} {a N : Nat} {v : Int32} : (fillI σ a N v).2.1 = σ.2.1 := rfl
theorem en_J {Δ : Dx} : (s_Eng0 Δ σ0).2.1 = (s_Rdr1 Δ σ0).2.1 := by
  unfold s_Eng0
  generalize s_Rdr1 Δ σ0 = ρ
  simp only [s_Mch83, s_Rng100, s_Rng98, s_Mch64, s_Rng81, s_Rng79, s_Pol57, s_Sbd55, s_Pol48, s_Cmp40, s_Wrk45, s_Wrk42, s_Stp35, s_Wrk36, s_Img15, s_Mch16, s_Rng33, s_Rng31, s_Prd7, s_Pol8, jR, jI, jF]
theorem mB_J {Δ : Dx} {σ : St} {k : Nat} : (s_ModB Δ σ).2.1 6 k = σ.2.1 6 k := by
  show (stJs (s_ModA Δ σ) 104 wlst).2.1 6 k = _
  rw [stJs_o _ _ _ _ _ (by decide)]
  unfold s_ModA
  simp only [jR, jI]
theorem jok_0 {Δ : Dx} (hF : ∀ a, 103 ≤ a → Fresh (s_Eng0 Δ σ0) a) : JOK (s_ModB Δ (s_Eng0 Δ σ0)).2.1 := by
  refine ⟨fun k hk => ?_, (mx_ModB hF).2⟩
  rw [mB_J, en_J]
  exact rd_J hk
