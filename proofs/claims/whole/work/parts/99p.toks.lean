/-! tokens: the class's row of them -/
/-- what is left where the k-th token starts; its number, its place, its value -/
def qD (T : Nat → Int32) (N : Nat) : Nat → Nat
  | 0 => pSk T N N 0
  | k + 1 => pSk T N (pTk T N (qD T N k)).2.2 0
def tC (T : Nat → Int32) (N k : Nat) : Nat := (pTk T N (qD T N k)).1
def tP (T : Nat → Int32) (N k : Nat) : Nat := N - qD T N k
def tV (T : Nat → Int32) (N k : Nat) : Int32 := (pTk T N (qD T N k)).2.1
theorem qD_le {T : Nat → Int32} {N : Nat} : ∀ k, qD T N k ≤ N
  | 0 => sk_le _ _
  | k + 1 => Nat.le_trans (sk_le _ _) (Nat.le_trans tk_lt.1 (qD_le k))
theorem tC_b {T : Nat → Int32} {N k : Nat} (vt : VT T N) : tC T N k < 1000 := by
  unfold tC pTk
  by_cases c0 : qD T N k = 0
  · rw [if_pos c0]; decide
  rw [if_neg c0]
  obtain ⟨v1, -, -⟩ := vt_c vt (show N - qD T N k < N by have := qD_le (T := T) (N := N) k; omega)
  split
  · have : wix (pLw T N (qD T N k)) < 1000 := by
      rcases wix_s (ls := pLw T N (qD T N k)) with ⟨y, -⟩ | ⟨y, -⟩ <;> omega
    exact this
  · split
    · have : (if qD T N k - (pNv T N (qD T N k) 0 0).2 ≤ 7 then 101 else 102) < 1000 := by split <;> omega
      exact this
    · split
      · have : 256 + (T (N - qD T N k)).toNatClampNeg < 1000 := by omega
        exact this
      · have : (if T (N - qD T N k) ∈ bs_sg then 128 + (T (N - qD T N k)).toNatClampNeg else 102) < 1000 := by split <;> omega
        exact this
/-- the class's rows of tokens, up to the last one -/
def RK (T : Nat → Int32) (N K : Nat) (C : IM) : Prop := (∀ j, j ≤ K → C 3 j = nI (tC T N j) ∧ C 4 j = nI (tP T N j) ∧ (tC T N j = 101 → C 5 j = tV T N j)) ∧ (tC T N K = 100 ∨ tC T N K = 102) ∧ (∀ j, j < K → tC T N j ≠ 100 ∧ tC T N j ≠ 102) ∧ K ≤ 900
theorem soC {T : Nat → Int32} {N n : Nat} {J : JM} (hJ : JOK J) (hn : 1000 ≤ n) (vt : VT T N) : ∀ (e f k : Nat) (C : IM), e ≤ N → k + e ≤ N → e < f → qD T N k = pSk T N e 0 → TXc T N C → C 1 4 = nI (N - e) → (∀ j, j < k → C 3 j = nI (tC T N j) ∧ C 4 j = nI (tP T N j) ∧ (tC T N j = 101 → C 5 j = tV T N j)) → (∀ j, j < k → tC T N j ≠ 100 ∧ tC T N j ≠ 102) → ∃ K C', l_Rdr_startOver_7 n J f (nI k) C = b_Rdr_startOver_81 n J C' ∧ RK T N K C' ∧ TXc T N C' ∧ ∀ b, b ≠ 1 → b ≠ 3 → b ≠ 4 → b ≠ 5 → C' b = C b := by
  intro e
  induction e using Nat.strongRecOn with
  | _ e ih =>
    intro f k C he hke hf hq tx h4 h1 h2
    have hN := vt.1
    obtain ⟨f', hf'⟩ : ∃ f', f = f' + 1 := ⟨f - 1, by omega⟩
    subst hf'
    have k901 : ¬ (901 : Int32) ≤ nI k := nk (N := 901) (by omega) (by decide)
    have sk := skC (n := n) hN e n C 0 he (by omega) tx h4
    rw [← hq] at sk
    obtain ⟨C1, hC1⟩ : ∃ z, z = up C 1 4 (nI (N - qD T N k)) := ⟨_, rfl⟩
    obtain ⟨C2, hC2⟩ : ∃ z, z = up C1 4 k (nI (tP T N k)) := ⟨_, rfl⟩
    have tx1 : TXc T N C1 := by rw [hC1]; exact TXc_u tx (Or.inr (by decide)) (by decide)
    have tx2 : TXc T N C2 := by rw [hC2]; exact TXc_u tx1 (Or.inl (by decide)) (by decide)
    have c14 : C1 1 4 = nI (N - qD T N k) := by rw [hC1, up_self]
    have c24 : C2 1 4 = nI (N - qD T N k) := by rw [hC2, fu (by decide), c14]
    obtain ⟨C3, t1, t2, t3, t4, t5⟩ := tkC (n := n) hJ hn vt (qD_le k) tx2 c24
    obtain ⟨C4, hC4⟩ : ∃ z, z = up (up C3 3 k (nI (tC T N k))) 5 k (C3 1 3) := ⟨_, rfl⟩
    have c4b : ∀ b, b ≠ 1 → b ≠ 3 → b ≠ 4 → b ≠ 5 → C4 b = C b := fun b z1 z3 z4 z5 => by rw [hC4, fu z5, fu z3, t2 b z1, hC2, fu z4, hC1, fu z1]
    have c41 : C4 1 = C3 1 := by rw [hC4, fu (by decide), fu (by decide)]
    have tx4 : TXc T N C4 := by
      refine ⟨?_, fun j hj => ?_⟩
      · rw [c41, t3 0 (by decide) (by decide)]; exact tx2.1
      · rw [hC4, fu (by decide), fu (by decide), t2 2 (by decide)]; exact tx2.2 j hj
    have row : ∀ j, j < k + 1 → C4 3 j = nI (tC T N j) ∧ C4 4 j = nI (tP T N j) ∧ (tC T N j = 101 → C4 5 j = tV T N j) := fun j hj => by
      by_cases z : j = k
      · subst z
        refine ⟨?_, ?_, fun y => ?_⟩
        · rw [hC4, fu (by decide), up_self]
        · rw [hC4, fu (by decide), fu (by decide), t2 4 (by decide), hC2, up_self]
        · rw [hC4, up_self]; exact t5 y
      · obtain ⟨a1, a2, a3⟩ := h1 j (by omega)
        refine ⟨?_, ?_, fun y => ?_⟩
        · rw [hC4, fu (by decide), up_ne (Or.inr z), t2 3 (by decide), hC2, fu (by decide), hC1, fu (by decide)]; exact a1
        · rw [hC4, fu (by decide), fu (by decide), t2 4 (by decide), hC2, up_ne (Or.inr z), hC1, fu (by decide)]; exact a2
        · rw [hC4, up_ne (Or.inr z), fu (by decide), t2 5 (by decide), hC2, fu (by decide), hC1, fu (by decide)]; exact a3 y
    have st : l_Rdr_startOver_7 n J (f' + 1) (nI k) C = if nI (tC T N k) = (100 : Int32) then (b_Rdr_startOver_81 n J C4) else (if nI (tC T N k) = (102 : Int32) then (b_Rdr_startOver_81 n J C4) else l_Rdr_startOver_7 n J f' (nI (k + 1)) C4) := by
      have c4k : C4 3 k = nI (tC T N k) := (row k (by omega)).1
      have ef : f_Rdr_skipBlanks n C = some C1 := by rw [hC1]; exact sk
      rw [l_Rdr_startOver_7, if_neg k901, ef, Option.bind_some, chk_i (nki (by omega) (by decide)), lt, nkc (by omega), c14]
      have eP : nI (N - qD T N k) = nI (tP T N k) := rfl
      rw [eP, ← hC2, t1, Option.bind_some, lt]
      have e3 : up C3 3 k (nI (pTk T N (qD T N k)).1) 1 3 = C3 1 3 := by rw [fu (by decide)]
      show (lt (up (up C3 3 k (nI (pTk T N (qD T N k)).1)) 5 k (up C3 3 k (nI (pTk T N (qD T N k)).1) 1 3)) fun I10 => if (I10 3 k : Int32) = (100 : Int32) then (b_Rdr_startOver_81 n J I10) else (if (I10 3 k : Int32) = (102 : Int32) then (b_Rdr_startOver_81 n J I10) else (l_Rdr_startOver_7 n J f' (nI k + 1) I10))) = _
      rw [e3, lt]
      have e4 : up (up C3 3 k (nI (pTk T N (qD T N k)).1)) 5 k (C3 1 3) = C4 := hC4.symm
      rw [e4, c4k, nk1]
    have tcb := tC_b (k := k) vt
    have i100 : nI (tC T N k) = 100 ↔ tC T N k = 100 := ⟨fun z => nij (b := 100) (by omega) (by decide) z, fun z => by rw [z]; rfl⟩
    have i102 : nI (tC T N k) = 102 ↔ tC T N k = 102 := ⟨fun z => nij (b := 102) (by omega) (by decide) z, fun z => by rw [z]; rfl⟩
    by_cases z1 : tC T N k = 100
    · exact ⟨k, C4, by rw [st, if_pos (i100.mpr z1)], ⟨fun j hj => row j (by omega), Or.inl z1, h2, by omega⟩, tx4, c4b⟩
    by_cases z2 : tC T N k = 102
    · exact ⟨k, C4, by rw [st, if_neg (fun y => z1 (i100.mp y)), if_pos (i102.mpr z2)], ⟨fun j hj => row j (by omega), Or.inr z2, h2, by omega⟩, tx4, c4b⟩
    have lt1 := (tk_lt (T := T) (N := N) (d := qD T N k)).2 z1
    have le1 : qD T N k ≤ e := by rw [hq]; exact sk_le _ _
    obtain ⟨K, C', g1, g2, g3, g4⟩ := ih (pTk T N (qD T N k)).2.2 (by omega) f' (k + 1) C4 (by omega) (by omega) (by omega) rfl tx4 (by rw [c41, t4]) row (fun j hj => by
      by_cases y : j = k
      · rw [y]; exact ⟨z1, z2⟩
      · exact h2 j (by omega))
    exact ⟨K, C', by rw [st, if_neg (fun y => z1 (i100.mp y)), if_neg (fun y => z2 (i102.mp y)), g1], g2, g3, fun b z1 z3 z4 z5 => by rw [g4 b z1 z3 z4 z5, c4b b z1 z3 z4 z5]⟩
/-- the class's reader stands at the k-th token -/
def RA (T : Nat → Int32) (N K k : Nat) (C : IM) : Prop := TXc T N C ∧ RK T N K C ∧ k ≤ K ∧ C 1 5 = nI k ∧ C 1 1 = nI (tC T N k) ∧ C 1 2 = nI (tP T N k) ∧ (tC T N k = 101 → C 1 3 = tV T N k)
theorem RK_c {T : Nat → Int32} {N K : Nat} {C C' : IM} (h3 : C' 3 = C 3) (h4 : C' 4 = C 4) (h5 : C' 5 = C 5) (h : RK T N K C) : RK T N K C' := by
  unfold RK at h ⊢
  rw [h3, h4, h5]
  exact h
theorem RA_c {T : Nat → Int32} {N K k : Nat} {C C' : IM} (h1 : C' 1 = C 1) (h2 : C' 2 = C 2) (h3 : C' 3 = C 3) (h4 : C' 4 = C 4) (h5 : C' 5 = C 5) (h : RA T N K k C) : RA T N K k C' := by
  unfold RA TXc RK at h ⊢
  rw [h1, h2, h3, h4, h5]
  exact h
theorem go26 {T : Nat → Int32} {N K k : Nat} {C : IM} (tx : TXc T N C) (rk : RK T N K C) (hk : k ≤ K) (h5 : C 1 5 + 1 = nI k) : ∃ C', b_Rdr_advance_26 C = some C' ∧ RA T N K k C' ∧ ∀ b, b ≠ 1 → C' b = C b := by
  obtain ⟨r1, r2, r3, r4⟩ := id rk
  obtain ⟨a1, a2, a3⟩ := r1 k hk
  have k0 : ¬ nI k < 0 := fun z => by have := (nlt (b := 0) (by omega) (by decide)).mp z; omega
  have k9 : ¬ (901 : Int32) ≤ nI k := nk (N := 901) (by omega) (by decide)
  have e : b_Rdr_advance_26 C = some (up (up (up (up C 1 5 (nI k)) 1 1 (nI (tC T N k))) 1 2 (nI (tP T N k))) 1 3 (C 5 k)) := by
    rw [b_Rdr_advance_26, h5, lt, up_self, if_neg k0, if_neg k9, chk_i (nki (by omega) (by decide)), lt, nkc (by omega), fu (show (3 : Nat) ≠ 1 by decide), a1, up_ne (Or.inr (show 5 ≠ 1 by decide)), up_self, chk_i (nki (by omega) (by decide)), lt, nkc (by omega), fu (show (4 : Nat) ≠ 1 by decide), fu (show (4 : Nat) ≠ 1 by decide), a2, up_ne (Or.inr (show 5 ≠ 2 by decide)), up_ne (Or.inr (show 5 ≠ 1 by decide)), up_self, chk_i (nki (by omega) (by decide)), lt, nkc (by omega), fu (show (5 : Nat) ≠ 1 by decide), fu (show (5 : Nat) ≠ 1 by decide), fu (show (5 : Nat) ≠ 1 by decide), b_Rdr_advance_94]
  refine ⟨_, e, ⟨?_, ?_, hk, ?_, ?_, ?_, fun z => ?_⟩, fun b hb => by rw [fu hb, fu hb, fu hb, fu hb]⟩
  · exact TXc_u (TXc_u (TXc_u (TXc_u tx (Or.inr (by decide)) (by decide)) (Or.inr (by decide)) (by decide)) (Or.inr (by decide)) (by decide)) (Or.inr (by decide)) (by decide)
  · exact RK_c (by rw [fu (by decide), fu (by decide), fu (by decide), fu (by decide)]) (by rw [fu (by decide), fu (by decide), fu (by decide), fu (by decide)]) (by rw [fu (by decide), fu (by decide), fu (by decide), fu (by decide)]) rk
  · rw [up_ne (Or.inr (by decide)), up_ne (Or.inr (by decide)), up_ne (Or.inr (by decide)), up_self]
  · rw [up_ne (Or.inr (by decide)), up_ne (Or.inr (by decide)), up_self]
  · rw [up_ne (Or.inr (by decide)), up_self]
  · rw [up_self]; exact a3 z
theorem adC {T : Nat → Int32} {N K k : Nat} {C : IM} (vt : VT T N) (h : RA T N K k C) (hk : k < K) : ∃ C', f_Rdr_advance C = some C' ∧ RA T N K (k + 1) C' ∧ ∀ b, b ≠ 1 → C' b = C b := by
  obtain ⟨tx, rk, -, h5, h1, h2, h3⟩ := h
  obtain ⟨r1, r2, r3, r4⟩ := id rk
  obtain ⟨z1, z2⟩ := r3 k hk
  have tcb := tC_b (k := k) vt
  obtain ⟨C', g1, g2, g3⟩ := go26 (k := k + 1) tx rk (by omega) (by rw [h5, nk1])
  refine ⟨C', ?_, g2, g3⟩
  rw [f_Rdr_advance, h5, if_neg (show ¬ nI k < 0 from fun z => by have := (nlt (b := 0) (by omega) (by decide)).mp z; omega), h1, if_neg (show ¬ nI (tC T N k) = 100 from fun z => z1 (nij (b := 100) (by omega) (by decide) z)), if_neg (show ¬ nI (tC T N k) = 102 from fun z => z2 (nij (b := 102) (by omega) (by decide) z)), g1]
/-- startOver -/
theorem stC {T : Nat → Int32} {N n : Nat} {J : JM} {C : IM} (hJ : JOK J) (hn : 1000 ≤ n) (vt : VT T N) (tx : TXc T N C) : ∃ K C', f_Rdr_startOver n J C = some C' ∧ RA T N K 0 C' ∧ ∀ b, b ≠ 1 → b ≠ 3 → b ≠ 4 → b ≠ 5 → C' b = C b := by
  have hN := vt.1
  obtain ⟨K, C1, g1, g2, g3, g4⟩ := soC (n := n) hJ hn vt N n 0 (up C 1 4 0) (Nat.le_refl _) (by omega) (by omega) rfl (TXc_u tx (Or.inr (by decide)) (by decide)) (by rw [up_self, Nat.sub_self]; rfl) (fun j hj => by omega) (fun j hj => by omega)
  obtain ⟨C', f1, f2, f3⟩ := go26 (k := 0) (C := up C1 1 5 (-1)) (TXc_u g3 (Or.inr (by decide)) (by decide)) (RK_c (fu (by decide)) (fu (by decide)) (fu (by decide)) g2) (Nat.zero_le _) (by rw [up_self]; rfl)
  refine ⟨K, C', ?_, f2, fun b z1 z3 z4 z5 => by rw [f3 b z1, fu z1, g4 b z1 z3 z4 z5, fu z1]⟩
  rw [f_Rdr_startOver, lt]
  show l_Rdr_startOver_7 n J n (nI 0) (up C 1 4 0) = _
  rw [g1, b_Rdr_startOver_81, lt, f_Rdr_advance, up_self, if_pos (by decide), f1, Option.bind_some]
