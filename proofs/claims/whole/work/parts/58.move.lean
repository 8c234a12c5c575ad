/-! the reference's moveRow as one function -/
def MRk (I : IM) (w k m off : Nat) (o : Int32) : IM := fun b j => if b = A_other ∧ off + k ≤ j ∧ j < off + m then I w (j - off) else if b = w ∧ k ≤ j ∧ j < m ∧ ¬ o = 0 then I A_other (off + j) else I b j
theorem MRk_step {I : IM} {w k m off : Nat} {o : Int32} (hw : w ≠ A_other) (hk : k < m) : MRk (up (up I A_other (off + k) (I w k)) w k (if o = 0 then I w k else I A_other (off + k))) w (k + 1) m off o = MRk I w k m off o := by
  funext b j
  unfold MRk
  by_cases hb : b = A_other
  · subst hb
    by_cases h1 : off + (k + 1) ≤ j ∧ j < off + m
    · rw [if_pos ⟨rfl, h1⟩, up_ne (Or.inr (by omega)), up_o hw, if_pos ⟨rfl, by omega, h1.2⟩]
    · rw [if_neg (fun z => h1 z.2), if_neg (fun z => hw z.1.symm), up_o (fun q => hw q.symm)]
      by_cases h2 : j = off + k
      · rw [h2, up_self, if_pos ⟨rfl, by omega, by omega⟩, Nat.add_sub_cancel_left]
      · rw [up_ne (Or.inr h2), if_neg (fun z => by omega), if_neg (fun z => hw z.1.symm)]
  · rw [if_neg (fun z => hb z.1), if_neg (c := b = A_other ∧ _) (fun z => hb z.1)]
    by_cases hbw : b = w
    · subst hbw
      by_cases h1 : k + 1 ≤ j ∧ j < m ∧ ¬ o = 0
      · rw [if_pos ⟨rfl, h1⟩, up_o (fun q => hw q.symm), up_ne (Or.inr (by omega)), if_pos ⟨rfl, by omega, h1.2⟩]
      · rw [if_neg (fun z => h1 z.2)]
        by_cases h2 : j = k
        · rw [h2, up_self]
          by_cases ho : o = 0
          · rw [if_pos ho, if_neg (fun z => z.2.2.2 ho)]
          · rw [if_neg ho, if_pos ⟨rfl, Nat.le_refl _, hk, ho⟩]
        · rw [up_ne (Or.inr h2), up_o hw, if_neg (fun z => h1 ⟨by omega, z.2.2⟩)]
    · rw [if_neg (fun z => hbw z.1), up_o hbw, up_o hb, if_neg (fun z => hbw z.1)]
theorem mr_loop {n w m off : Nat} {o : Int32} (hw : w ≠ A_other) (hl : m ≤ lenA w) (hl2 : lenA w ≤ 5000) (ho : off + m ≤ 996) : ∀ (d f k : Nat) (I : IM), k + d = m → d < f → l_Mod_moveRow_3 n w f (nI m) (nI off) o (nI k) I = some (MRk I w k m off o)
  | 0, f + 1, k, I, hd, _ => by
    have hk : k = m := by omega
    subst hk
    rw [l_Mod_moveRow_3, if_pos (Int32.le_refl _)]
    congr 1
    funext b j
    unfold MRk
    rw [if_neg (fun z => by omega), if_neg (fun z => by omega)]
  | d + 1, f + 1, k, I, hd, hf => by
    have hk : k < m := by omega
    have ea : nI off + nI k = nI (off + k) := by
      unfold nI
      exact (Int32.ofNat_add off k).symm
    have e : l_Mod_moveRow_3 n w (f + 1) (nI m) (nI off) o (nI k) I = l_Mod_moveRow_3 n w f (nI m) (nI off) o (nI (k + 1)) (up (up I A_other (off + k) (I w k)) w k (if o = 0 then I w k else I A_other (off + k))) := by
      rw [l_Mod_moveRow_3, if_neg (nk hk (by omega)), ea, chk_i (nki (by omega) (by decide)), chk_i (nki (by omega) (by omega)), lt, nkc (by omega), nkc (by omega)]
      by_cases q : o = 0
      · rw [if_pos q, if_pos q, b_Mod_moveRow_50, chk_i (nki (by omega) (by omega)), lt, nkc (by omega), nk1, up_o hw]
      · rw [if_neg q, if_neg q, b_Mod_moveRow_50, chk_i (nki (by omega) (by omega)), lt, nkc (by omega), nk1]
    rw [e, mr_loop hw hl hl2 ho d f (k + 1) _ (by omega) (by omega), MRk_step hw hk]
def MR (I : IM) (w m off : Nat) (o : Int32) : IM := MRk I w 0 m off o
theorem mr_f {n w m off : Nat} {o : Int32} {I : IM} (hn : 1000 ≤ n) (hw : w ≠ A_other) (hl : m ≤ lenA w) (hl2 : lenA w ≤ 5000) (ho : off + m ≤ 996) (hm : m ≤ 200) : f_Mod_moveRow n w (nI m) (nI off) o I = some (MR I w m off o) := by
  show l_Mod_moveRow_3 n w n (nI m) (nI off) o (nI 0) I = _
  exact mr_loop hw hl hl2 ho m n 0 I (by omega) (by omega)
theorem MR_b {I : IM} {w m off b : Nat} {o : Int32} (h1 : b ≠ A_other) (h2 : b ≠ w) : MR I w m off o b = I b := by
  funext j
  unfold MR MRk
  rw [if_neg (fun z => h1 z.1), if_neg (fun z => h2 z.1)]
theorem MR_out {I : IM} {w m off j : Nat} {o : Int32} (hw : w ≠ A_other) (h : j < off ∨ off + m ≤ j) : MR I w m off o A_other j = I A_other j := by
  unfold MR MRk
  rw [if_neg (fun z => by omega), if_neg (fun z => hw z.1.symm)]
theorem MR_in {I : IM} {w m off k : Nat} {o : Int32} (h : k < m) : MR I w m off o A_other (off + k) = I w k := by
  unfold MR MRk
  rw [if_pos ⟨rfl, by omega, by omega⟩, Nat.add_sub_cancel_left]
theorem MR_w {I : IM} {w m off k : Nat} {o : Int32} (hw : w ≠ A_other) (h : k < m) : MR I w m off o w k = if o = 0 then I w k else I A_other (off + k) := by
  unfold MR MRk
  rw [if_neg (fun z => hw z.1)]
  by_cases q : o = 0
  · rw [if_neg (fun z => z.2.2.2 q), if_pos q]
  · rw [if_pos ⟨rfl, Nat.zero_le _, h, q⟩, if_neg q]
def lenF : List Nat := [64, 64, 96, 96, 96, 8, 8, 16, 16, 40, 60, 60, 128, 40, 96, 88]
/-- agreement within the rows' lengths -/
def agR (s s' : MS) : Prop := (∀ i, i < 16 → s'.1 i = s.1 i) ∧ ∀ i, i < 16 → ∀ k, k < lenF.getD i 0 → s'.2 i k = s.2 i k
theorem RM_agR {t : Nat} {tl : Int32 → Nat → Prop} {V : IM} {m : Nat} {s s' : MS} (h : agR s s') (r : RM t tl V m s) : RM t tl V m s' := by
  obtain ⟨h1, h2⟩ := h
  obtain ⟨⟨z1, z2, z3, z4, z5⟩, r2, ⟨b0, b1, b2⟩, ⟨c0, c1, c2⟩, ⟨d0, d1, d2⟩, r6, r7, r8, r9⟩ := r
  refine ⟨⟨fun k hk => ?_, fun k hk => ?_, fun k hk => ?_, ?_, ?_⟩, ?_, ⟨?_, ?_, fun k hk => ?_⟩, ⟨?_, ?_, fun k hk hk2 => ?_⟩, ⟨?_, ?_, fun k hk => ?_⟩, fun k hk => ?_, ?_, ?_, ?_⟩
  · rw [h2 0 (by decide) k hk, h2 1 (by decide) k hk]; exact z1 k hk
  · rw [h2 2 (by decide) k hk, h2 3 (by decide) k hk, h2 4 (by decide) k hk]; exact z2 k hk
  · rw [h2 5 (by decide) k hk, h2 6 (by decide) k hk]; exact z3 k hk
  · rw [h1 1 (by decide)]; exact z4
  · rw [h1 2 (by decide)]; exact z5
  · unfold R2 at r2 ⊢
    rw [h1 0 (by decide), h1 3 (by decide), h1 6 (by decide), h1 5 (by decide), h1 7 (by decide), h1 9 (by decide), h1 10 (by decide), h1 4 (by decide), h1 8 (by decide), h1 11 (by decide)]
    exact r2
  · rw [h1 4 (by decide)]; exact b0
  · rw [h1 4 (by decide)]; exact b1
  · rw [h1 4 (by decide)] at hk
    rw [h2 7 (by decide) k (by show k < 16; omega), h2 8 (by decide) k (by show k < 16; omega)]
    exact b2 k hk
  · rw [h1 5 (by decide)]; exact c0
  · rw [h1 5 (by decide)]; exact c1
  · rw [h1 5 (by decide)] at hk2
    rw [h2 9 (by decide) k hk]
    exact c2 k hk hk2
  · rw [h1 11 (by decide)]; exact d0
  · rw [h1 11 (by decide)]; exact d1
  · rw [h1 11 (by decide)] at hk
    rw [h2 10 (by decide) k (by show k < 60; omega), h2 11 (by decide) k (by show k < 60; omega)]
    exact d2 k hk
  · rw [h2 15 (by decide) k hk]; exact r6 k hk
  · unfold R7 at r7 ⊢
    rw [h1 6 (by decide), h1 15 (by decide)]
    exact r7
  · obtain ⟨e0, e1, e2, e3, e4, e5, e6, e7⟩ := r8
    refine ⟨?_, ?_, ?_, ?_, ?_, ?_, ?_, fun q hq => ?_⟩
    · rw [h1 12 (by decide)]; exact e0
    · rw [h1 12 (by decide)]; exact e1
    · rw [h1 12 (by decide)]; exact e2
    · rw [h1 13 (by decide)]; exact e3
    · rw [h1 13 (by decide)]; exact e4
    · rw [h1 12 (by decide), h1 13 (by decide)]; exact e5
    · rw [h1 12 (by decide), h1 13 (by decide)]; exact e6
    · rw [h1 12 (by decide)] at hq
      have hq8 : q < 8 := by omega
      obtain ⟨f0, f1, f2, f3, f4, f5, f6, f7⟩ := e7 q hq
      have g0 := h2 12 (by decide) (16 * q) (by show 16 * q < 128; omega)
      have g1 := h2 13 (by decide) (5 * q) (by show 5 * q < 40; omega)
      rw [g0, g1]
      refine ⟨f0, fun j hj => ?_, ⟨f2.1, f2.2.1, f2.2.2.1, fun p hp z => f2.2.2.2 p hp (fun j hj => ?_)⟩, f3, f4, fun j hj => ?_, f6, ?_⟩
      · rw [h2 12 (by decide) (16 * q + 1 + j) (by show 16 * q + 1 + j < 128; omega)]
        exact f1 j hj
      · have := z j hj
        rw [h2 12 (by decide) (16 * p + j) (by show 16 * p + j < 128; omega), h2 12 (by decide) (16 * q + j) (by show 16 * q + j < 128; omega)] at this
        exact this
      · rw [h2 13 (by decide) (5 * q + 1 + j) (by show 5 * q + 1 + j < 40; omega)]
        exact f5 j hj
      · rw [h2 13 (by decide) (5 * q + 4) (by show 5 * q + 4 < 40; omega)]
        exact f7
  · obtain ⟨e0, e1, e2, e3, e4⟩ := r9
    refine ⟨?_, ?_, ?_, ?_, fun k hk hk2 => ?_⟩
    · rw [h1 14 (by decide)]; exact e0
    · rw [h1 14 (by decide)]; exact e1
    · rw [h1 14 (by decide)]; exact e2
    · rw [h1 14 (by decide)]; exact e3
    · rw [h1 14 (by decide)] at hk2
      rw [h2 14 (by decide) k hk]
      exact e4 k hk hk2
