/-! begin -/
theorem fil_at {I : IM} {a N b j : Nat} {v : Int32} : fil I a N v b j = if b = a ∧ j < N then v else I b j := by
  unfold fil upA
  by_cases h : b = a
  · subst h
    simp
  · simp [h]
theorem av_fin {I V : IM} {m i N : Nat} {v : Int32} (h : ag19 V (vw I m)) : ag19 (fil V i N v) (vw (fil I (m + i) N v) m) := fun a ha => by
  funext j
  show fil I (m + i) N v (m + a) j = fil V i N v a j
  rw [fil_at, fil_at]
  by_cases e : a = i
  · subst e
    have := congrFun (h a ha) j
    simp only [true_and]
    rw [← this]
    rfl
  · rw [if_neg (by omega), if_neg (by omega)]
    exact congrFun (h a ha) j
theorem av_at {I V : IM} {m k : Nat} {v : Int32} (h : ag19 V (vw I m)) : ag19 (up V 0 k v) (vw (up I m k v) m) := av_in (i := 0) h
def rsV (V : IM) (c : Int32) : IM := up (up (up (up (fil (fil (fil (fil (fil (fil (fil (fil (fil (up (up (up V 0 0 c) 0 1 (-1)) 0 2 (-1)) 1 64 0) 2 64 0) 3 96 0) 4 96 0) 5 96 0) 6 9 0) 7 9 0) 13 8 0) 14 88 0) 15 0 0) 15 1 0) 17 0 0) 17 1 0
def rsI (I : IM) (m : Nat) (c : Int32) : IM := up (up (up (up (fil (fil (fil (fil (fil (fil (fil (fil (fil (up (up (up I m 0 c) m 1 (-1)) m 2 (-1)) (m + 1) 64 0) (m + 2) 64 0) (m + 3) 96 0) (m + 4) 96 0) (m + 5) 96 0) (m + 6) 9 0) (m + 7) 9 0) (m + 13) 8 0) (m + 14) 88 0) (m + 15) 0 0) (m + 15) 1 0) (m + 17) 0 0) (m + 17) 1 0
theorem rs_f {I : IM} {m : Nat} {c : Int32} : f_Mch_restart m c I = some (rsI I m c) := rfl
theorem rs_vw {I : IM} {m : Nat} {c : Int32} : ag19 (rsV (vw I m) c) (vw (rsI I m c) m) := av_in (av_in (av_in (av_in (av_fin (av_fin (av_fin (av_fin (av_fin (av_fin (av_fin (av_fin (av_fin (av_at (av_at (av_at ag_refl)))))))))))))))
theorem rs_o {I : IM} {m : Nat} {c : Int32} {b : Nat} (h : b < m ∨ m + 19 ≤ b) : rsI I m c b = I b := fr_Mch_restart rs_f h
/-- ring constants stay -/
theorem rs_k {I : IM} {m : Nat} {c : Int32} {j : Nat} (h : 2 ≤ j) : rsI I m c (m + 15) j = I (m + 15) j ∧ rsI I m c (m + 17) j = I (m + 17) j := by
  have h1 := congrFun ((rs_vw (I := I) (m := m) (c := c)) 15 (by decide)) j
  have h2 := congrFun ((rs_vw (I := I) (m := m) (c := c)) 17 (by decide)) j
  refine ⟨h1.trans ?_, h2.trans ?_⟩
  · simp [rsV, up_at, fil_at, show ¬ j = 0 by omega, show ¬ j = 1 by omega]
    rfl
  · simp [rsV, up_at, fil_at, show ¬ j = 0 by omega, show ¬ j = 1 by omega]
    rfl
theorem rs_RM {t : Nat} {tl : Int32 → Nat → Prop} {V : IM} {s : MS} {c : Int32} (a0 : ∀ j, j < 64 → s.2 0 j = 0 ∧ s.2 1 j = 0) (a1 : ∀ j, j < 96 → s.2 2 j = 0 ∧ s.2 3 j = 0 ∧ s.2 4 j = 0) (a2 : ∀ j, j < 8 → s.2 5 j = 0 ∧ s.2 6 j = 0) (a3 : ∀ j, j < 88 → s.2 15 j = 0) (b0 : s.1 0 = c) (b1 : s.1 1 = 0) (b2 : s.1 2 = 0) (b3 : s.1 3 = -1) (b4 : s.1 4 = 0) (b5 : s.1 5 = 0) (b6 : s.1 6 = 0) (b7 : s.1 7 = 0) (b8 : s.1 8 = 0) (b9 : s.1 9 = 0) (b10 : s.1 10 = 0) (b11 : s.1 11 = 0) (b12 : s.1 12 = 0) (b13 : s.1 13 = 0) (b14 : s.1 14 = 0) : RM t tl (rsV V c) 0 s := by
  refine ⟨⟨fun j hj => ?_, fun j hj => ?_, fun j hj => ?_, ?_, ?_⟩, ?_, ⟨?_, ?_, fun k hk => ?_⟩, ⟨?_, ?_, fun k hk hk2 => ?_⟩, ⟨?_, ?_, fun k hk => ?_⟩, fun j hj => ?_, ?_, ⟨?_, ?_, ?_, ?_, ?_, ?_, ?_, fun q hq => ?_⟩, ⟨?_, ?_, ?_, ?_, fun k hk hk2 => ?_⟩⟩
  · simp [rsV, up_at, fil_at, hj, a0 j hj]
  · simp [rsV, up_at, fil_at, hj, a1 j hj]
  · simp [rsV, up_at, fil_at, show j < 9 by omega, a2 j hj]
  · simp [rsV, up_at, fil_at, b1]
  · simp [rsV, up_at, fil_at, b2]
  · simp [R2, rsV, up_at, fil_at, b0, b3, b6, b5, b7, b9, b10, b4, b8, b11]
  · rw [b4]; decide
  · rw [b4]; decide
  · rw [b4] at hk
    simp only [Int32.reduceToInt] at hk
    omega
  · rw [b5]; decide
  · rw [b5]
    simp only [Int32.reduceToInt]
    omega
  · rw [b5] at hk2
    simp only [Int32.reduceToInt] at hk2
    omega
  · rw [b11]; decide
  · rw [b11]; decide
  · rw [b11] at hk
    simp only [Int32.reduceToInt] at hk
    omega
  · simp [rsV, up_at, fil_at, hj, a3 j hj]
  · unfold R7
    rw [b6, if_neg (by decide)]
    simp [rsV, up_at, fil_at]
  · simp [rsV, up_at, fil_at, b12]
  · rw [b12]; decide
  · rw [b12]; decide
  · rw [b13]; decide
  · rw [b13]; decide
  · rw [b12, if_neg (by decide)]
    simp [rsV, up_at, fil_at]
  · intro _
    rw [b12, b13]
  · rw [b12] at hq
    simp only [Int32.reduceToInt] at hq
    omega
  · rw [b14]; decide
  · rw [b14]
    simp only [Int32.reduceToInt]
    omega
  · rw [b14, if_pos (by decide)]
    simp [rsV, up_at, fil_at]
  · rw [b14, if_pos (by decide)]
    simp [rsV, up_at, fil_at]
  · rw [b14] at hk2
    simp only [Int32.reduceToInt] at hk2
    omega
theorem ma_begin {PX : Nat → IM → Prop} (hP : PXF PX) : Ma_begin (Rl PX) := by
  intro a0 t ht rl hd ot pt it J I p1 p2 p3 p4 p5 hJ hR
  obtain ⟨d, tx, rc, wi, h69, rm, ro, px⟩ := id hR
  obtain ⟨n, hn⟩ : ∃ n : Nat, 100 ≤ n := ⟨100, Nat.le_refl _⟩
  obtain ⟨I2, e, s1, s2, s3, s4, s5, s6, s7, s8, s9, s10⟩ := su_spec (n := n) (c := a0) (I := up (rsI I hd a0) MO 0 0) hn
  have n0 := mch_in p2 (show 18 < 19 by decide)
  have hm2 : ∀ i, i < 19 → I2 (hd + i) = rsI I hd a0 (hd + i) := fun i hi => by
    have := mch_in p2 hi
    rw [s10 _ (by omega) (by omega), fu (by show hd + i ≠ 102; omega)]
  have hmo : rsI I hd a0 MO = I MO := rs_o (by show 102 < hd ∨ hd + 19 ≤ 102; omega)
  refine ⟨n, rsI I hd a0, I2, ?_, ?_, ?_⟩
  · show Option.bind (f_Mch_restart hd a0 I) (fun v1 => some v1) = _
    rw [rs_f]
    rfl
  · show lt (up (rsI I hd a0) MO 0 0) (fun I1 => Option.bind (f_Mod_setUp n a0 I1) fun v2 => some v2) = _
    rw [lt, e]
    rfl
  · refine Rl_m hP hR p2 p3 (fun b e1 e2 e3 => ?_) (fun j hj => ?_) ?_ ?_
    · rw [s10 b e2 e3, fu (by exact e2), rs_o (by omega)]
    · rw [s9 j (by revert j; decide), up_ne (Or.inr (by rintro rfl; revert hj; decide)), hmo]
    · obtain ⟨z1, z2, z3, z4⟩ := rc hd p2
      rw [hm2 15 (by decide), hm2 17 (by decide), (rs_k (by decide)).1, (rs_k (by decide)).1, (rs_k (by decide)).2, (rs_k (by decide)).2]
      exact ⟨z1, z2, z3, z4⟩
    · have hv : ag19 (rsV (vw I hd) a0) (vw I2 hd) := ag_trans rs_vw (fun i hi => by
        funext j
        show I2 (hd + i) j = rsI I hd a0 (hd + i) j
        rw [hm2 i hi])
      refine RM_end hv agS_refl (rs_RM s1 s2 s3 s4 s5 ?_ ?_ s7 ?_ ?_ ?_ ?_ ?_ ?_ ?_ ?_ ?_ ?_ ?_)
      · exact s6 42 (by decide)
      · exact s6 43 (by decide)
      · exact s6 45 (by decide)
      · exact s6 48 (by decide)
      · exact s6 50 (by decide)
      · exact s6 51 (by decide)
      · exact s6 52 (by decide)
      · exact s6 53 (by decide)
      · exact s6 54 (by decide)
      · exact s6 55 (by decide)
      · exact s6 58 (by decide)
      · exact s6 59 (by decide)
      · exact s6 63 (by decide)
