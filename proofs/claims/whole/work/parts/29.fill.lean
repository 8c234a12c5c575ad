/-! Arrays.fill, Math.max, Math.min, System.arraycopy -/
def fillI (σ : St) (a N : Nat) (v : Int32) : St := (upA σ.1 a (fun j => if j < N then v else σ.1 a j), σ.2)
theorem fillI_0 {σ : St} {a : Nat} {v : Int32} : fillI σ a 0 v = σ := by
  unfold fillI upA
  obtain ⟨I, J, R⟩ := σ
  congr 1
  funext b j
  by_cases h : b = a
  · rw [if_pos h]; subst h; rfl
  · rw [if_neg h]
theorem fillI_s {σ : St} {a k : Nat} {v : Int32} : stI (fillI σ a k v) a k v = fillI σ a (k + 1) v := by
  unfold fillI stI upA upd
  obtain ⟨I, J, R⟩ := σ
  simp only
  congr 1
  funext b j
  by_cases h : b = a
  · subst h
    simp only [if_true]
    by_cases hj : j = k
    · subst hj
      rw [if_pos rfl, if_pos (Nat.lt_succ_self _)]
    · rw [if_neg hj]
      by_cases hl : j < k
      · rw [if_pos hl, if_pos (Nat.lt_succ_of_lt hl)]
      · rw [if_neg hl, if_neg (by omega)]
  · rw [if_neg h, if_neg h]
    simp only [if_neg h]
theorem ev_fill {Δ : Dx} {n a N : Nat} {σ : St} (v : Int32) (ho : Ar n a .int N) (hN : N < 2 ^ 31) : EvN Δ 0 m_Arr_fill_AII n [.ref (Δ.ba + a), .int v] σ none n (fillI σ a N v) 0 0 := by
  refine ev_of (by decide) (Nat.le_of_ble_eq_true rfl) (fun Γ hk hR hT => ?_)
  refine g_iconst (pc := 0) (v := 0) (dd d_Arr_fill_AII 0 rfl) (by decide) ?_
  refine g_istore_n (pc := 1) (dd d_Arr_fill_AII 1 rfl) (by decide) ?_
  refine g_aload_n (pc := 2) (dd d_Arr_fill_AII 2 rfl) rfl ?_
  refine g_alen (pc := 3) (t := 0) (v := nI N) (dd d_Arr_fill_AII 3 rfl) ho rfl rfl ?_
  refine g_istore_n (pc := 4) (dd d_Arr_fill_AII 4 rfl) (by decide) ?_
  have K : GG Δ m_Arr_fill_AII Γ n 0 0 (fillI σ a 0 v) 5 [some (.ref (Δ.ba + a)), some (.int v), some (.int (nI 0)), some (.int (nI N))] [] := by
    refine down N (P := fun k => GG Δ m_Arr_fill_AII Γ n 0 0 (fillI σ a k v) 5 [some (.ref (Δ.ba + a)), some (.int v), some (.int (nI k)), some (.int (nI N))] []) ?_ ?_
    · refine g_iload_n (pc := 5) (dd d_Arr_fill_AII 5 rfl) rfl ?_
      refine g_iload_n (pc := 6) (dd d_Arr_fill_AII 6 rfl) rfl ?_
      refine g_icmpge (pc := 7) (tgt := 20) (dd d_Arr_fill_AII 7 rfl) (by decide) (fun _ => ?_) (fun q => absurd (Int32.le_refl _) q)
      exact g_vret (pc := 20) rfl (dd d_Arr_fill_AII 14 rfl) hT
    · intro k hkn ih
      refine g_iload_n (pc := 5) (dd d_Arr_fill_AII 5 rfl) rfl ?_
      refine g_iload_n (pc := 6) (dd d_Arr_fill_AII 6 rfl) rfl ?_
      refine g_icmpge (pc := 7) (tgt := 20) (dd d_Arr_fill_AII 7 rfl) (by decide) (fun q => absurd q (nI_ge hkn hN)) (fun _ => ?_)
      refine g_aload_n (pc := 10) (dd d_Arr_fill_AII 8 rfl) rfl ?_
      refine g_iload_n (pc := 11) (dd d_Arr_fill_AII 9 rfl) rfl ?_
      refine g_iload_n (pc := 12) (dd d_Arr_fill_AII 10 rfl) rfl ?_
      refine g_iast (pc := 13) (dd d_Arr_fill_AII 11 rfl) ho (nI_in hkn hN) ?_
      refine g_iincW (pc := 14) (w := 1) (dd d_Arr_fill_AII 12 rfl) rfl (by decide) (by decide) ?_
      refine g_goto (pc := 17) (tgt := 5) (dd d_Arr_fill_AII 13 rfl) (by decide) ?_
      rw [nI_clamp (by omega), fillI_s]
      rw [nI_succ] at ih
      exact ih
  rw [fillI_0] at K
  exact K
def maxI (x y : Int32) : Int32 := if x < y then y else x
def minI (x y : Int32) : Int32 := if y < x then y else x
theorem mw_1 : Cond.static Lib.Math.max.name ∈ tb ∧ Cond.initialized "java/lang/Math" ∈ tb ∧ Cond.code Lib.Math.max.name Lib.Math.max.code 2 (some .int) ∈ tb := ⟨tk3 103 rfl rfl, tk1 24 rfl rfl, tk3 104 rfl rfl⟩
theorem mw_2 : Cond.static Lib.Math.min.name ∈ tb ∧ Cond.initialized "java/lang/Math" ∈ tb ∧ Cond.code Lib.Math.min.name Lib.Math.min.code 2 (some .int) ∈ tb := ⟨tk3 106 rfl rfl, tk1 24 rfl rfl, tk3 107 rfl rfl⟩
theorem aw_1 : Cond.native arraycopyName ∈ tb ∧ Cond.static arraycopyName ∈ tb ∧ Cond.initialized "java/lang/System" ∈ tb := ⟨tk4 99 rfl rfl, tk4 98 rfl rfl, tk1 29 rfl rfl⟩
theorem n_Eng_342 : Cond.methodLink "WardEngine" 342 Lib.Math.min.name ∈ tb := tk4 96 rfl rfl
theorem n_Eng_347 : Cond.methodLink "WardEngine" 347 arraycopyName ∈ tb := tk4 97 rfl rfl
theorem n_Cmp_60 : Cond.methodLink "WardEngine$Comparer" 60 arraycopyName ∈ tb := tk7 151 rfl rfl
theorem n_Mch_97 : Cond.methodLink "WardEngine$Machine" 97 arraycopyName ∈ tb := tk7 24 rfl rfl
theorem n_Mch_103 : Cond.methodLink "WardEngine$Machine" 103 Lib.Math.min.name ∈ tb := tk7 76 rfl rfl
theorem n_Mch_125 : Cond.methodLink "WardEngine$Machine" 125 Lib.Math.max.name ∈ tb := tk7 190 rfl rfl
theorem n_Rng_32 : Cond.methodLink "WardEngine$Ring" 32 arraycopyName ∈ tb := tk6 233 rfl rfl
theorem n_Rng_46 : Cond.methodLink "WardEngine$Ring" 46 Lib.Math.max.name ∈ tb := tk6 228 rfl rfl
theorem n_Wrk_37 : Cond.methodLink "WardEngine$Worker" 37 Lib.Math.min.name ∈ tb := tk6 174 rfl rfl
theorem n_Wrk_46 : Cond.methodLink "WardEngine$Worker" 46 Lib.Math.max.name ∈ tb := tk6 175 rfl rfl
section NatRows
variable {Δ : Dx} {mi : MI} {Γ : Cx} {n k c : Nat} {σ : St} {pc : Nat} {lv : List (Option Value)} {rest : List Value} {idx : Nat}
theorem g_mmax {x y : Int32} (hdg : decode mi.2.1 pc = .ok (.invokestatic idx, 3)) (hl0 : Cond.methodLink mi.1.cls idx Lib.Math.max.name ∈ tb) (h1 : 1 ≤ Γ.k) (hw : (rest.map fun v => v.category).sum ≤ 8) (hc : k ≤ Γ.R.cells) (hs : c ≤ Γ.R.slots) (kk : GG Δ mi Γ n k c σ (pc + 3) lv (.int (maxI x y) :: rest)) : GG Δ mi Γ n k c σ pc lv (.int y :: .int x :: rest) := fun ok H locs ls hP hS hl => by
  obtain ⟨hx, hb, hml, hown, hts, hr, hlk, hK, hnm, hsz, hf, hlo⟩ := id ok
  exact va_mmax hx hb (by rw [hml]; exact hl.1.symm) hown (hts _ hl0) (hts _ mw_1.1) (hts _ mw_1.2.1) (hts _ mw_1.2.2) (by omega) (by omega) hc hs hdg (kk ok H locs ls hP hS hl)
theorem g_mmin {x y : Int32} (hdg : decode mi.2.1 pc = .ok (.invokestatic idx, 3)) (hl0 : Cond.methodLink mi.1.cls idx Lib.Math.min.name ∈ tb) (h1 : 1 ≤ Γ.k) (hw : (rest.map fun v => v.category).sum ≤ 8) (hc : k ≤ Γ.R.cells) (hs : c ≤ Γ.R.slots) (kk : GG Δ mi Γ n k c σ (pc + 3) lv (.int (if x > y then y else x) :: rest)) : GG Δ mi Γ n k c σ pc lv (.int y :: .int x :: rest) := fun ok H locs ls hP hS hl => by
  obtain ⟨hx, hb, hml, hown, hts, hr, hlk, hK, hnm, hsz, hf, hlo⟩ := id ok
  exact va_mmin hx hb (by rw [hml]; exact hl.1.symm) hown (hts _ hl0) (hts _ mw_2.1) (hts _ mw_2.2.1) (hts _ mw_2.2.2) (by omega) (by omega) hc hs hdg (kk ok H locs ls hP hS hl)
/-- a row copied: from place p of cell a to place q of cell b, m of them -/
def cpyI (σ : St) (a b p q m : Nat) : St := (upA σ.1 b (va_cpy (σ.1 a) (σ.1 b) p q m), σ.2)
theorem cellO_cpy {ca : FieldType → ClassId} {σ : St} {a b d p q m : Nat} (h : d ≠ b) : cellO ca (cpyI σ a b p q m) d = cellO ca σ d := by
  have e : ∀ ci j, fv ci (cpyI σ a b p q m) d j = fv ci σ d j := fun ci j => by
    unfold fv cpyI upA
    simp only [if_neg h]
  unfold cellO
  have e2 : (cpyI σ a b p q m).1 d = σ.1 d := by unfold cpyI upA; simp only [if_neg h]
  have e3 : (cpyI σ a b p q m).2 = σ.2 := rfl
  split
  · unfold aco
    rw [e2, e3]
  · congr 2
    exact List.map_congr_left (fun j _ => e _ j)
theorem g_copy {a b la lb : Nat} {sp dp m : Int32} (hdg : decode mi.2.1 pc = .ok (.invokestatic idx, 3)) (hl0 : Cond.methodLink mi.1.cls idx arraycopyName ∈ tb) (h1 : 1 ≤ Γ.k) (hw : (rest.map fun v => v.category).sum ≤ 8) (ha : Ar n a .int la) (hb0 : Ar n b .int lb) (hs0 : ¬ sp < 0) (hd0 : ¬ dp < 0) (hm0 : ¬ m < 0) (hsm : sp.toNatClampNeg + m.toNatClampNeg ≤ la) (hdm : dp.toNatClampNeg + m.toNatClampNeg ≤ lb)
    (kk : GG Δ mi Γ n k c (cpyI σ a b sp.toNatClampNeg dp.toNatClampNeg m.toNatClampNeg) (pc + 3) lv rest) : GG Δ mi Γ n k c σ pc lv (.int m :: .int dp :: .ref (Δ.ba + b) :: .int sp :: .ref (Δ.ba + a) :: rest) := fun ok H locs ls hP hS hl => by
  obtain ⟨hx, hb, hml, hown, hts, hr, hlk, hK, hnm, hsz, hf, hlo⟩ := id ok
  have hwa : (Δ.W n σ)[a]? = some (Δ.ba + a, .inl (Δ.2.2.1 .int, la, .inl (σ.1 a))) := by rw [wsO_at ha.1, cellO_ar ha.2 rfl]
  have hwb : (Δ.W n σ)[b]? = some (Δ.ba + b, .inl (Δ.2.2.1 .int, lb, .inl (σ.1 b))) := by rw [wsO_at hb0.1, cellO_ar hb0.2 rfl]
  have hset : (Δ.W n σ).set b (Δ.ba + b, .inl (Δ.2.2.1 .int, lb, .inl (va_cpy (σ.1 a) (σ.1 b) sp.toNatClampNeg dp.toNatClampNeg m.toNatClampNeg))) = Δ.W n (cpyI σ a b sp.toNatClampNeg dp.toNatClampNeg m.toNatClampNeg) := by
    have e : (cpyI σ a b sp.toNatClampNeg dp.toNatClampNeg m.toNatClampNeg).1 b = va_cpy (σ.1 a) (σ.1 b) sp.toNatClampNeg dp.toNatClampNeg m.toNatClampNeg := by
      unfold cpyI upA
      simp only [if_true]
    rw [← e, ← cellO_ar hb0.2 rfl]
    exact wsO_set hb0.1 (fun d hd => cellO_cpy hd)
  refine va_copyi hx hb (by rw [hml]; exact hl.1.symm) hown (hts _ hl0) (hts _ aw_1.1) (hts _ aw_1.2.1) (hts _ aw_1.2.2) hK.1 hP wsO_D hS a b 0 0 (tys := tysO Δ.2.2.1) hwa hwb rfl rfl rfl hs0 hd0 hm0 hsm hdm (fun _ _ => rfl) (by omega) (by
    have : nativeFrameWords "java/lang/System" "arraycopy" 5 ≤ 40 := by decide
    omega) hdg (fun H1 locs1 hP1 _ hS1 => ?_)
  rw [hset] at hP1
  exact kk ok H1 locs1 ls hP1 hS1 hl
end NatRows
