/-! the machine at hand as a view: what the class has of it, what the reference has -/
def vw (I : IM) (m : Nat) : IM := fun i k => I (m + i) k
theorem RM_vw {t : Nat} {tl : Int32 → Nat → Prop} {I : IM} {m : Nat} {s : MS} : RM t tl I m s ↔ RM t tl (vw I m) 0 s := by
  unfold RM R1 R2 R3 R4 R5 R6 R7 R8 R9 vw
  simp only [Nat.zero_add, Nat.add_zero]
theorem vw_in {I : IM} {m i k : Nat} {v : Int32} : vw (up I (m + i) k v) m = up (vw I m) i k v := by
  funext a j
  show up I (m + i) k v (m + a) j = up (vw I m) i k v a j
  rw [up_at, up_at]
  by_cases h : a = i
  · subst h
    simp [vw]
  · rw [if_neg (by omega), if_neg (by omega)]
    rfl
theorem vw_at {I : IM} {m k : Nat} {v : Int32} : vw (up I m k v) m = up (vw I m) 0 k v := vw_in (i := 0)
/-- two views agree where the relation looks -/
def ag19 (V V' : IM) : Prop := ∀ i, i < 19 → V' i = V i
theorem RM_ag {t : Nat} {tl : Int32 → Nat → Prop} {V V' : IM} {s : MS} (h : ag19 V V') (r : RM t tl V 0 s) : RM t tl V' 0 s := RM_c (fun i hi => by rw [Nat.zero_add]; exact h i hi) r
theorem ag_refl {V : IM} : ag19 V V := fun _ _ => rfl
theorem ag_trans {V V' V'' : IM} (a : ag19 V V') (b : ag19 V' V'') : ag19 V V'' := fun i hi => (b i hi).trans (a i hi)
theorem ag_up {V V' : IM} {i k : Nat} {v : Int32} (h : ag19 V V') : ag19 (up V i k v) (up V' i k v) := fun a ha => by
  funext j
  rw [up_at, up_at, h a ha]
/-- a store outside -/
theorem vw_out {I : IM} {m b k : Nat} {v : Int32} (h : b < m ∨ m + 19 ≤ b) : ag19 (vw I m) (vw (up I b k v) m) := fun i hi => by
  funext j
  show up I b k v (m + i) j = I (m + i) j
  exact up_o (by omega)
theorem cm_out {I : IM} {b k : Nat} {v : Int32} (h : b < 102 ∨ (102 < b ∧ b < 119) ∨ 136 ≤ b) : curM (up I b k v) = curM I := by
  unfold curM
  congr 1
  · funext j
    exact up_o (by show (102 : Nat) ≠ b; omega)
  · funext j k'
    have := arF_ge j
    exact up_o (by omega)
theorem cm_mo {I : IM} {j : Nat} {v : Int32} (h : ∀ i, scF.getD i 34 ≠ j) : curM (up I MO j v) = curM I := by
  unfold curM
  congr 1
  · funext i
    exact up_ne (Or.inr (h i))
  · funext i k'
    have := arF_ge i
    exact up_o (by show _ ≠ (102 : Nat); omega)
theorem cm_0 {I : IM} {v : Int32} : curM (up I MO 0 v) = curM I := cm_mo scF_ne
theorem cm_ar {I : IM} {j k : Nat} {v : Int32} (hj : j < 16) : (curM (up I (arF.getD j 119) k v)).1 = (curM I).1 ∧ ∀ i, i < 16 → (curM (up I (arF.getD j 119) k v)).2 i = (up (curM I).2 j k v) i := by
  have hr := arF_ge j
  refine ⟨?_, fun i hi => ?_⟩
  · funext i
    exact up_o (by show (102 : Nat) ≠ _; omega)
  · funext k'
    show up I (arF.getD j 119) k v (arF.getD i 119) k' = up (curM I).2 j k v i k'
    rw [up_at, up_at]
    by_cases e : i = j
    · subst e
      simp [curM]
    · have : arF.getD i 119 ≠ arF.getD j 119 := by
        rw [arF_at i hi, arF_at j hj]
        split <;> split <;> omega
      rw [if_neg (fun z => this z.1), if_neg (fun z => e z.1)]
      rfl
theorem scF_inj : ∀ i, i < 16 → ∀ j, j < 16 → scF.getD i 34 = scF.getD j 34 → i = j := by decide
theorem cm_sc {I : IM} {j : Nat} {v : Int32} (hj : j < 16) : (∀ i, i < 16 → (curM (up I MO (scF.getD j 34) v)).1 i = upd (curM I).1 j v i) ∧ (curM (up I MO (scF.getD j 34) v)).2 = (curM I).2 := by
  refine ⟨fun i hi => ?_, ?_⟩
  · show up I MO (scF.getD j 34) v MO (scF.getD i 34) = upd (curM I).1 j v i
    rw [up_at]
    by_cases e : i = j
    · subst e
      simp [upd]
    · rw [if_neg (fun z => e (scF_inj i hi j hj z.2))]
      simp [upd, e]
      rfl
  · funext i k'
    have := arF_ge i
    exact up_o (by show _ ≠ (102 : Nat); omega)
/-- two of the reference's machines agree where the relation looks -/
def agS (s s' : MS) : Prop := (∀ i, i < 16 → s'.1 i = s.1 i) ∧ ∀ i, i < 16 → s'.2 i = s.2 i
theorem RM_agS {t : Nat} {tl : Int32 → Nat → Prop} {V : IM} {m : Nat} {s s' : MS} (h : agS s s') (r : RM t tl V m s) : RM t tl V m s' := by
  obtain ⟨h1, h2⟩ := h
  unfold RM R1 R2 R3 R4 R5 R6 R7 R8 R9 at r ⊢
  rw [h1 0 (by decide), h1 1 (by decide), h1 2 (by decide), h1 3 (by decide), h1 4 (by decide), h1 5 (by decide), h1 6 (by decide), h1 7 (by decide), h1 8 (by decide), h1 9 (by decide), h1 10 (by decide), h1 11 (by decide), h1 12 (by decide), h1 13 (by decide), h1 14 (by decide), h1 15 (by decide), h2 0 (by decide), h2 1 (by decide), h2 2 (by decide), h2 3 (by decide), h2 4 (by decide), h2 5 (by decide), h2 6 (by decide), h2 7 (by decide), h2 8 (by decide), h2 9 (by decide), h2 10 (by decide), h2 11 (by decide), h2 12 (by decide), h2 13 (by decide), h2 14 (by decide), h2 15 (by decide)]
  exact r
theorem agS_refl {s : MS} : agS s s := ⟨fun _ _ => rfl, fun _ _ => rfl⟩
theorem agS_trans {a b c : MS} (h : agS a b) (h' : agS b c) : agS a c := ⟨fun i hi => (h'.1 i hi).trans (h.1 i hi), fun i hi => (h'.2 i hi).trans (h.2 i hi)⟩
def seS (s : MS) (j : Nat) (v : Int32) : MS := (upd s.1 j v, s.2)
def seA (s : MS) (j k : Nat) (v : Int32) : MS := (s.1, up s.2 j k v)
theorem agS_seS {s s' : MS} {j : Nat} {v : Int32} (h : agS s s') : agS (seS s j v) (seS s' j v) := ⟨fun i hi => by
  show upd s'.1 j v i = upd s.1 j v i
  unfold upd
  rw [h.1 i hi], h.2⟩
theorem agS_seA {s s' : MS} {j k : Nat} {v : Int32} (h : agS s s') : agS (seA s j k v) (seA s' j k v) := ⟨h.1, fun i hi => by
  funext q
  show up s'.2 j k v i q = up s.2 j k v i q
  rw [up_at, up_at, h.2 i hi]⟩
theorem cur_sc {I : IM} {s : MS} {j n : Nat} {v : Int32} (hj : j < 16) (hn : scF.getD j 34 = n) (h : agS s (curM I)) : agS (seS s j v) (curM (up I MO n v)) := by
  subst hn
  exact agS_trans (agS_seS h) ⟨(cm_sc hj).1, fun i _ => congrFun (cm_sc hj).2 i⟩
theorem cur_ar {I : IM} {s : MS} {j c k : Nat} {v : Int32} (hj : j < 16) (hn : arF.getD j 119 = c) (h : agS s (curM I)) : agS (seA s j k v) (curM (up I c k v)) := by
  subst hn
  exact agS_trans (agS_seA h) ⟨fun i _ => congrFun (cm_ar hj).1 i, (cm_ar hj).2⟩
theorem cur_out {I : IM} {s : MS} {b k : Nat} {v : Int32} (hb : b < 102 ∨ (102 < b ∧ b < 119) ∨ 136 ≤ b) (h : agS s (curM I)) : agS s (curM (up I b k v)) := by
  rw [cm_out hb]
  exact h
theorem cur_0 {I : IM} {s : MS} {v : Int32} (h : agS s (curM I)) : agS s (curM (up I MO 0 v)) := by
  rw [cm_0]
  exact h
theorem av_in {I V : IM} {m i k : Nat} {v : Int32} (h : ag19 V (vw I m)) : ag19 (up V i k v) (vw (up I (m + i) k v) m) := by
  rw [vw_in]
  exact ag_up h
theorem av_out {I V : IM} {m b k : Nat} {v : Int32} (hb : b < m ∨ m + 19 ≤ b) (h : ag19 V (vw I m)) : ag19 V (vw (up I b k v) m) := ag_trans h (vw_out hb)
