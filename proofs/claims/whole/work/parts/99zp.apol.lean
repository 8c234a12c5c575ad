/-! policy: the abstract policy grows by a statement -/
def aSA (A : AP) (ns : Nat) (w pl : Int32) (ds : List CIt) : AP := (aNr A, aSf A, fun s => if s ≤ ns then aCf A s else aCf A ns + ds.length, fun i => if aCf A ns ≤ i then (ds.getD (i - aCf A ns) (0, 0)).1 else aCd A i, fun i => if aCf A ns ≤ i then rfV (ds.getD (i - aCf A ns) (0, 0)) i else aCv A i, fun s => if s = ns then w else aSk A s, fun s => if s = ns then pl else aSa A s, aNm A, aRo A)
theorem sa_cf {A : AP} {ns s : Nat} {w pl : Int32} {ds : List CIt} (h : s ≤ ns) : aCf (aSA A ns w pl ds) s = aCf A s := if_pos h
theorem sa_cn {A : AP} {ns : Nat} {w pl : Int32} {ds : List CIt} : aCf (aSA A ns w pl ds) (ns + 1) = aCf A ns + ds.length := if_neg (show ¬ ns + 1 ≤ ns by omega)
theorem sa_cd {A : AP} {ns i : Nat} {w pl : Int32} {ds : List CIt} (h : i < aCf A ns) : aCd (aSA A ns w pl ds) i = aCd A i := if_neg (by omega)
theorem sa_cv {A : AP} {ns i : Nat} {w pl : Int32} {ds : List CIt} (h : i < aCf A ns) : aCv (aSA A ns w pl ds) i = aCv A i := if_neg (by omega)
theorem sa_dd {A : AP} {ns j : Nat} {w pl : Int32} {ds : List CIt} : aCd (aSA A ns w pl ds) (aCf A ns + j) = (ds.getD j (0, 0)).1 := by
  show (if aCf A ns ≤ aCf A ns + j then (ds.getD (aCf A ns + j - aCf A ns) (0, 0)).1 else _) = _
  rw [if_pos (by omega), Nat.add_sub_cancel_left]
theorem sa_dv {A : AP} {ns j : Nat} {w pl : Int32} {ds : List CIt} : aCv (aSA A ns w pl ds) (aCf A ns + j) = rfV (ds.getD j (0, 0)) (aCf A ns + j) := by
  show (if aCf A ns ≤ aCf A ns + j then rfV (ds.getD (aCf A ns + j - aCf A ns) (0, 0)) (aCf A ns + j) else _) = _
  rw [if_pos (by omega), Nat.add_sub_cancel_left]
theorem sa_sk {A : AP} {ns s : Nat} {w pl : Int32} {ds : List CIt} (h : s < ns) : aSk (aSA A ns w pl ds) s = aSk A s := if_neg (by omega)
theorem sa_sa {A : AP} {ns s : Nat} {w pl : Int32} {ds : List CIt} (h : s < ns) : aSa (aSA A ns w pl ds) s = aSa A s := if_neg (by omega)
theorem sa_kn {A : AP} {ns : Nat} {w pl : Int32} {ds : List CIt} : aSk (aSA A ns w pl ds) ns = w := if_pos rfl
theorem sa_an {A : AP} {ns : Nat} {w pl : Int32} {ds : List CIt} : aSa (aSA A ns w pl ds) ns = pl := if_pos rfl
def AW (A : AP) (ns : Nat) : Prop := aCf A 0 = 0 ∧ (∀ s, s < ns → aCf A s < aCf A (s + 1)) ∧ ∀ s, s < ns → ∃ w, w < 4 ∧ aSk A s = nI (50 + w)
theorem AW_m {A : AP} {ns : Nat} (h : AW A ns) : ∀ {a b : Nat}, a ≤ b → b ≤ ns → aCf A a ≤ aCf A b := by
  intro a b hab
  induction b with
  | zero => intro _; have : a = 0 := by omega
            subst this; exact Nat.le_refl _
  | succ b ih =>
    intro hb
    by_cases e : a = b + 1
    · rw [e]; exact Nat.le_refl _
    · exact Nat.le_trans (ih (by omega) (by omega)) (Nat.le_of_lt (h.2.1 b (by omega)))
/-- nothing below ns has changed -/
def AE (A A' : AP) (ns : Nat) : Prop := aNr A' = aNr A ∧ aSf A' = aSf A ∧ aNm A' = aNm A ∧ aRo A' = aRo A ∧ (∀ s, s ≤ ns → aCf A' s = aCf A s) ∧ (∀ i, i < aCf A ns → aCd A' i = aCd A i ∧ aCv A' i = aCv A i) ∧ ∀ s, s < ns → aSk A' s = aSk A s ∧ aSa A' s = aSa A s
theorem AE_s {A : AP} {ns : Nat} {w pl : Int32} {ds : List CIt} : AE A (aSA A ns w pl ds) ns := ⟨rfl, rfl, rfl, rfl, fun _ h => sa_cf h, fun _ h => ⟨sa_cd h, sa_cv h⟩, fun _ h => ⟨sa_sk h, sa_sa h⟩⟩
theorem AE_0 {A : AP} {ns : Nat} : AE A A ns := ⟨rfl, rfl, rfl, rfl, fun _ _ => rfl, fun _ _ => ⟨rfl, rfl⟩, fun _ _ => ⟨rfl, rfl⟩⟩
theorem AE_t {A B C : AP} {ns ns' : Nat} (hn : ns ≤ ns') (hc : aCf A ns ≤ aCf B ns') (h : AE A B ns) (g : AE B C ns') : AE A C ns := by
  obtain ⟨h1, h2, h3, h4, h5, h6, h7⟩ := h
  obtain ⟨g1, g2, g3, g4, g5, g6, g7⟩ := g
  exact ⟨g1.trans h1, g2.trans h2, g3.trans h3, g4.trans h4, fun s hs => (g5 s (by omega)).trans (h5 s hs), fun i hi => ⟨(g6 i (by omega)).1.trans (h6 i hi).1, (g6 i (by omega)).2.trans (h6 i hi).2⟩, fun s hs => ⟨(g7 s (by omega)).1.trans (h7 s hs).1, (g7 s (by omega)).2.trans (h7 s hs).2⟩⟩
def AD (A : AP) (m : Int32) (s : Nat) : Prop := ∃ dp : Nat → Nat, dp (aCf A s) = 0 ∧ dp (aCf A (s + 1)) = 1 ∧ ∀ i, aCf A s ≤ i → i < aCf A (s + 1) → Sok A m dp (aCf A (s + 1)) i
theorem AD_e {A A' : AP} {ns s : Nat} {m m' : Int32} (aw : AW A ns) (ae : AE A A' ns) (hs : s < ns) (hm : ∀ k, k < 17 → tbi m k → tbi m' k) (h : AD A m s) : AD A' m' s := by
  obtain ⟨dp, d1, d2, d3⟩ := h
  obtain ⟨-, -, -, -, e5, e6, -⟩ := ae
  have c1 := e5 s (by omega)
  have c2 := e5 (s + 1) (by omega)
  have c3 := AW_m aw (show s + 1 ≤ ns by omega) (Nat.le_refl _)
  refine ⟨dp, by rw [c1]; exact d1, by rw [c2]; exact d2, fun i h1 h2 => ?_⟩
  rw [c1] at h1
  rw [c2] at h2 ⊢
  obtain ⟨x1, x2⟩ := d3 i h1 h2
  obtain ⟨y1, y2⟩ := e6 i (by omega)
  unfold Sok
  rw [y1, y2]
  refine ⟨x1, ?_⟩
  rcases x2 with g | ⟨k, g1, g2, g3, g4⟩ | g | g | ⟨g1, g2, g3⟩ | g | g
  · exact Or.inl g
  · exact Or.inr (Or.inl ⟨k, g1, g2, hm k (by omega) g3, g4⟩)
  · exact Or.inr (Or.inr (Or.inl g))
  · exact Or.inr (Or.inr (Or.inr (Or.inl g)))
  · exact Or.inr (Or.inr (Or.inr (Or.inr (Or.inl ⟨g1, hm 15 (by decide) g2, g3⟩))))
  · exact Or.inr (Or.inr (Or.inr (Or.inr (Or.inr (Or.inl g)))))
  · exact Or.inr (Or.inr (Or.inr (Or.inr (Or.inr (Or.inr g)))))
theorem AD_n {A : AP} {ns : Nat} {w pl m m' : Int32} {ds : List CIt} (h : HT m 33 0 1 ds) (hm : ∀ k, k < 17 → tbi m k → tbi m' k) : AD (aSA A ns w pl ds) m' ns := by
  obtain ⟨dp, d1, d2, d3, d4⟩ := h
  have c1 : aCf (aSA A ns w pl ds) ns = aCf A ns := sa_cf (Nat.le_refl _)
  have c2 : aCf (aSA A ns w pl ds) (ns + 1) = aCf A ns + ds.length := sa_cn
  refine ⟨fun i => dp (i - aCf A ns), by rw [c1]; dsimp only; rw [Nat.sub_self]; exact d1, by rw [c2]; dsimp only; rw [Nat.add_sub_cancel_left]; exact d2, fun i h1 h2 => ?_⟩
  rw [c1] at h1
  rw [c2] at h2 ⊢
  obtain ⟨j, rfl⟩ : ∃ j, i = aCf A ns + j := ⟨i - aCf A ns, by omega⟩
  have x := d4 j (by omega)
  have e1 : aCf A ns + j - aCf A ns = j := by omega
  have e2 : aCf A ns + j + 1 - aCf A ns = j + 1 := by omega
  unfold Sok
  rw [sa_dd, sa_dv]
  dsimp only
  rw [e1, e2]
  refine ⟨d3 j (by omega), ?_⟩
  rcases x with g | ⟨k, g1, g2, g3, g4⟩ | g | g | ⟨g1, g2, g3⟩ | ⟨e, g1, g2, g3, g4, g5⟩ | ⟨e, g1, g2, g3, g4⟩
  · exact Or.inl g
  · exact Or.inr (Or.inl ⟨k, g1, g2, hm k (by omega) g3, g4⟩)
  · exact Or.inr (Or.inr (Or.inl g))
  · exact Or.inr (Or.inr (Or.inr (Or.inl g)))
  · exact Or.inr (Or.inr (Or.inr (Or.inr (Or.inl ⟨g1, hm 15 (by decide) g2, g3⟩))))
  · refine Or.inr (Or.inr (Or.inr (Or.inr (Or.inr (Or.inl ⟨aCf A ns + j + e, by rw [g1], ?_, by omega, by omega, g4, ?_⟩)))))
    · rw [g1]
      show nI (aCf A ns + j) + nI e = _
      rw [nad]
    · rw [show aCf A ns + j + e - aCf A ns = j + e by omega]; exact g5
  · refine Or.inr (Or.inr (Or.inr (Or.inr (Or.inr (Or.inr ⟨aCf A ns + j + e, by rw [g1], ?_, by omega, by omega, ?_⟩)))))
    · rw [g1]
      show nI (aCf A ns + j) + nI e = _
      rw [nad]
    · rw [show aCf A ns + j + e - aCf A ns = j + e by omega]; exact g4
theorem AW_n {A : AP} {ns w : Nat} {pl : Int32} {ds : List CIt} (aw : AW A ns) (hw : w < 4) (hd : 0 < ds.length) : AW (aSA A ns (nI (50 + w)) pl ds) (ns + 1) := by
  refine ⟨by rw [sa_cf (Nat.zero_le _)]; exact aw.1, fun s hs => ?_, fun s hs => ?_⟩
  · by_cases e : s = ns
    · subst e; rw [sa_cn, sa_cf (Nat.le_refl _)]; omega
    · rw [sa_cf (by omega), sa_cf (by omega)]; exact aw.2.1 s (by omega)
  · by_cases e : s = ns
    · subst e; exact ⟨w, hw, sa_kn⟩
    · rw [sa_sk (by omega)]; exact aw.2.2 s (by omega)
/-- the class's statements -/
def ACs (A : AP) (ns p : Nat) (I : IM) : Prop := (∀ s, s < ns → I (p + 1) (aCf A (s + 1) + s) = aSk A s - 9 ∧ I (p + 2) (aCf A (s + 1) + s) = aSa A s) ∧ ∀ s, s < ns → ∀ i, aCf A s ≤ i → i < aCf A (s + 1) → I (p + 1) (i + s) = trS (aCd A i) ∧ I (p + 2) (i + s) = trX (aCd A i) (aCv A i) s
theorem ACs_c {A : AP} {ns p : Nat} {I I' : IM} (h : ACs A ns p I) (aw : AW A ns) (e : ∀ j, j < aCf A ns + ns → I' (p + 1) j = I (p + 1) j ∧ I' (p + 2) j = I (p + 2) j) : ACs A ns p I' := by
  refine ⟨fun s hs => ?_, fun s hs i h1 h2 => ?_⟩
  · have := AW_m aw (show s + 1 ≤ ns by omega) (Nat.le_refl _)
    rw [(e _ (by omega)).1, (e _ (by omega)).2]; exact h.1 s hs
  · have := AW_m aw (show s + 1 ≤ ns by omega) (Nat.le_refl _)
    rw [(e _ (by omega)).1, (e _ (by omega)).2]; exact h.2 s hs i h1 h2
theorem clTr {d : CIt} {i s : Nat} : clX d (i + s) = trX d.1 (rfV d i) s := by
  have e : nI (i + s) + d.2 = nI i + d.2 + nI s := by
    rw [← nad, Int32.add_assoc, Int32.add_comm (nI s), ← Int32.add_assoc]
  unfold clX trX rfV
  by_cases z1 : d.1 = 300
  · rw [if_pos z1, if_pos z1, if_neg (by rw [z1]; decide)]
  rw [if_neg z1, if_neg z1]
  by_cases z2 : (500 : Int32) ≤ d.1
  · rw [if_pos z2, if_pos z2]
  rw [if_neg z2, if_neg z2]
  by_cases z3 : d.1 = 302
  · rw [if_pos z3, if_pos z3, if_pos (Or.inl z3), e]
  rw [if_neg z3, if_neg z3]
  by_cases z4 : d.1 = 303
  · rw [if_pos z4, if_pos z4, if_pos (Or.inr z4), e]
  · rw [if_neg z4, if_neg z4]
theorem ACs_n {A : AP} {ns p t tn : Nat} {pl m : Int32} {ds : List CIt} {C C' : IM} (aw : AW A ns) (h : ACs A ns p C) (ht : nI (m2r t) - 9 = nI t) (cm : CM p (aCf A ns + ns) ds m t pl tn C C') : ACs (aSA A ns (nI (m2r t)) pl ds) (ns + 1) p C' := by
  have o := ACs_c h aw cm.2.1
  refine ⟨fun s hs => ?_, fun s hs i h1 h2 => ?_⟩
  · by_cases e : s = ns
    · subst e
      rw [sa_cn, sa_kn, sa_an, show aCf A s + ds.length + s = aCf A s + s + ds.length by omega, ht]
      exact ⟨cm.2.2.2.1, cm.2.2.2.2.1⟩
    · rw [sa_cf (by omega), sa_sk (by omega), sa_sa (by omega)]; exact o.1 s (by omega)
  · by_cases e : s = ns
    · subst e
      rw [sa_cf (Nat.le_refl _)] at h1
      rw [sa_cn] at h2
      obtain ⟨j, rfl⟩ : ∃ j, i = aCf A s + j := ⟨i - aCf A s, by omega⟩
      have b := BL_g cm.2.2.1 j (by omega)
      rw [sa_dd, sa_dv, ← clTr, show aCf A s + j + s = aCf A s + s + j by omega]
      exact b
    · rw [sa_cf (by omega)] at h1 h2
      have := AW_m aw (show s + 1 ≤ ns by omega) (Nat.le_refl _)
      rw [sa_cd (by omega), sa_cv (by omega)]; exact o.2 s (by omega) i h1 h2
/-- the reference's statements -/
def ARs (A : AP) (ns : Nat) (R : IM) : Prop := (∀ s, s < ns → R A_statementKind s = aSk A s ∧ R A_statementAt s = aSa A s ∧ R A_statementFrom s = nI (aCf A s) ∧ R A_statementTo s = nI (aCf A (s + 1))) ∧ ∀ i, i < aCf A ns → R A_code0 i = aCd A i ∧ R A_codeValue i = aCv A i
theorem ARs_n {A : AP} {ns q t : Nat} {pl m : Int32} {ds : List CIt} {R R' : IM} (h : ARs A ns R) (rm : RMs (aCf A ns) ns q ds m t pl R R') : ARs (aSA A ns (nI (m2r t)) pl ds) (ns + 1) R' := by
  obtain ⟨r1, r2, r3, r4, r5, r6, r7, r8⟩ := rm
  refine ⟨fun s hs => ?_, fun i hi => ?_⟩
  · by_cases e : s = ns
    · subst e
      rw [sa_kn, sa_an, sa_cn, sa_cf (Nat.le_refl _)]
      exact ⟨r4, r5, r6, r7⟩
    · obtain ⟨f1, f2, f3, f4⟩ := r8.2.2.1 s e
      rw [sa_cf (by omega), sa_cf (by omega), sa_sk (by omega), sa_sa (by omega), f1, f2, f3, f4]
      exact h.1 s (by omega)
  · rw [sa_cn] at hi
    by_cases e : i < aCf A ns
    · rw [sa_cd e, sa_cv e, (r2 i e).1, (r2 i e).2]; exact h.2 i e
    · obtain ⟨j, rfl⟩ : ∃ j, i = aCf A ns + j := ⟨i - aCf A ns, by omega⟩
      rw [sa_dd, sa_dv]
      exact BL_g r1 j (by omega)
theorem ARs_c {A : AP} {ns : Nat} {R R' : IM} (h : ARs A ns R) (e : ∀ a, a ∈ [106, 107, 108, 109, 110, 111] → R' a = R a) : ARs A ns R' := by
  unfold ARs at h ⊢
  rw [e A_statementKind (by decide), e A_statementAt (by decide), e A_statementFrom (by decide), e A_statementTo (by decide), e A_code0 (by decide), e A_codeValue (by decide)]
  exact h
