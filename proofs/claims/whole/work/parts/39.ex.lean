/-! the class: where its objects and rows lie, and which refs never change -/
abbrev isMch (a : Nat) : Prop := a = 16 ∨ a = 64 ∨ a = 83
abbrev isPol (a : Nat) : Prop := a = 8 ∨ a = 48 ∨ a = 57
abbrev isRng (a : Nat) : Prop := a = 31 ∨ a = 33 ∨ a = 79 ∨ a = 81 ∨ a = 98 ∨ a = 100
abbrev isWrk (a : Nat) : Prop := a = 36 ∨ a = 42 ∨ a = 45
def fixR : List (Nat × Nat × Nat) := [(0, 0, 1), (0, 1, 7), (0, 2, 15), (0, 3, 35), (0, 4, 40), (0, 5, 48), (0, 6, 55), (1, 6, 2), (1, 7, 3), (1, 8, 4), (1, 9, 5), (1, 10, 6), (7, 0, 1), (8, 1, 9), (8, 2, 10), (8, 3, 11), (8, 4, 12), (8, 5, 13), (8, 6, 14), (15, 0, 1), (16, 3, 17), (16, 4, 18), (16, 5, 19), (16, 6, 20), (16, 7, 21), (16, 8, 22), (16, 9, 23), (16, 10, 24), (16, 11, 25), (16, 12, 26), (16, 13, 27), (16, 14, 28), (16, 15, 29), (16, 16, 30), (16, 17, 31), (16, 18, 33), (31, 4, 32), (33, 4, 34), (35, 0, 36), (35, 1, 39), (36, 0, 37), (36, 1, 38), (40, 1, 41), (40, 2, 42), (40, 3, 45), (42, 0, 43), (42, 1, 44), (45, 0, 46), (45, 1, 47), (48, 1, 49), (48, 2, 50), (48, 3, 51), (48, 4, 52), (48, 5, 53), (48, 6, 54), (57, 1, 58), (57, 2, 59), (57, 3, 60), (57, 4, 61), (57, 5, 62), (57, 6, 63), (64, 3, 65), (64, 4, 66), (64, 5, 67), (64, 6, 68), (64, 7, 69), (64, 8, 70), (64, 9, 71), (64, 10, 72), (64, 11, 73), (64, 12, 74), (64, 13, 75), (64, 14, 76), (64, 15, 77), (64, 16, 78), (64, 17, 79), (64, 18, 81), (79, 4, 80), (81, 4, 82), (83, 3, 84), (83, 4, 85), (83, 5, 86), (83, 6, 87), (83, 7, 88), (83, 8, 89), (83, 9, 90), (83, 10, 91), (83, 11, 92), (83, 12, 93), (83, 13, 94), (83, 14, 95), (83, 15, 96), (83, 16, 97), (83, 17, 98), (83, 18, 100), (98, 4, 99), (100, 4, 101)]
/-- where the line's bytes lie: in the row that it was made with, or in a row that was made later -/
def DYX (Δ : Dx) (V : Nat → Nat → Value) : Prop := rN (V 203 6) = 0 ∧ ((rN (V 201 6) = 0 ∧ V 55 0 = .ref (Δ.ba + 56)) ∨ ((rN (V 201 6) = 34 ∨ rN (V 201 6) = 70) ∧ V 55 0 = .ref (Δ.ba + 142 + rN (V 201 7))))
theorem DYX_c {Δ : Dx} {V V' : Nat → Nat → Value} (h5 : V' 55 = V 55) (h1 : V' 201 = V 201) (h3 : V' 203 = V 203) (h : DYX Δ V) : DYX Δ V' := by
  unfold DYX at h ⊢
  rw [h5, h1, h3]
  exact h
/-- the refs of the class: those that never change; the five that do; the packed words -/
def EX (Δ : Dx) (X : Lx) (rl hd ot pt it : Nat) : Prop := (∀ q ∈ fixR, X.2 q.1 q.2.1 = .ref (Δ.ba + q.2.2)) ∧ (Kx Δ Δ.s0) ∧ (X.2 0 7 = .ref (Δ.ba + rl)) ∧ (isPol rl) ∧ (X.2 0 8 = .ref (Δ.ba + hd)) ∧ (isMch hd) ∧ (X.2 0 9 = .ref (Δ.ba + ot)) ∧ (isMch ot) ∧ (X.2 7 1 = .ref (Δ.ba + pt)) ∧ (isPol pt) ∧ (X.2 15 1 = .ref (Δ.ba + it)) ∧ (isMch it) ∧ DYX Δ X.2
theorem EX.fix {Δ : Dx} {X : Lx} {rl hd ot pt it : Nat} (h : EX Δ X rl hd ot pt it) : ∀ q ∈ fixR, X.2 q.1 q.2.1 = .ref (Δ.ba + q.2.2) := h.1
theorem EX.kx {Δ : Dx} {X : Lx} {rl hd ot pt it : Nat} (h : EX Δ X rl hd ot pt it) : Kx Δ Δ.s0 := h.2.1
theorem EX.r_rl {Δ : Dx} {X : Lx} {rl hd ot pt it : Nat} (h : EX Δ X rl hd ot pt it) : X.2 0 7 = .ref (Δ.ba + rl) := h.2.2.1
theorem EX.i_rl {Δ : Dx} {X : Lx} {rl hd ot pt it : Nat} (h : EX Δ X rl hd ot pt it) : isPol rl := h.2.2.2.1
theorem EX.r_hd {Δ : Dx} {X : Lx} {rl hd ot pt it : Nat} (h : EX Δ X rl hd ot pt it) : X.2 0 8 = .ref (Δ.ba + hd) := h.2.2.2.2.1
theorem EX.i_hd {Δ : Dx} {X : Lx} {rl hd ot pt it : Nat} (h : EX Δ X rl hd ot pt it) : isMch hd := h.2.2.2.2.2.1
theorem EX.r_ot {Δ : Dx} {X : Lx} {rl hd ot pt it : Nat} (h : EX Δ X rl hd ot pt it) : X.2 0 9 = .ref (Δ.ba + ot) := h.2.2.2.2.2.2.1
theorem EX.i_ot {Δ : Dx} {X : Lx} {rl hd ot pt it : Nat} (h : EX Δ X rl hd ot pt it) : isMch ot := h.2.2.2.2.2.2.2.1
theorem EX.r_pt {Δ : Dx} {X : Lx} {rl hd ot pt it : Nat} (h : EX Δ X rl hd ot pt it) : X.2 7 1 = .ref (Δ.ba + pt) := h.2.2.2.2.2.2.2.2.1
theorem EX.i_pt {Δ : Dx} {X : Lx} {rl hd ot pt it : Nat} (h : EX Δ X rl hd ot pt it) : isPol pt := h.2.2.2.2.2.2.2.2.2.1
theorem EX.r_it {Δ : Dx} {X : Lx} {rl hd ot pt it : Nat} (h : EX Δ X rl hd ot pt it) : X.2 15 1 = .ref (Δ.ba + it) := h.2.2.2.2.2.2.2.2.2.2.1
theorem EX.i_it {Δ : Dx} {X : Lx} {rl hd ot pt it : Nat} (h : EX Δ X rl hd ot pt it) : isMch it := h.2.2.2.2.2.2.2.2.2.2.2.1
theorem EX.dy {Δ : Dx} {X : Lx} {rl hd ot pt it : Nat} (h : EX Δ X rl hd ot pt it) : DYX Δ X.2 := h.2.2.2.2.2.2.2.2.2.2.2.2
theorem rx_Mch_3 {Δ : Dx} {X : Lx} {rl hd ot pt it a : Nat} (hX : EX Δ X rl hd ot pt it) (h : isMch a) : X.2 a 3 = .ref (Δ.ba + (a + 1)) := by
  rcases h with rfl | rfl | rfl <;> exact hX.fix (_, 3, _) (by decide)
theorem rx_Mch_4 {Δ : Dx} {X : Lx} {rl hd ot pt it a : Nat} (hX : EX Δ X rl hd ot pt it) (h : isMch a) : X.2 a 4 = .ref (Δ.ba + (a + 2)) := by
  rcases h with rfl | rfl | rfl <;> exact hX.fix (_, 4, _) (by decide)
theorem rx_Mch_5 {Δ : Dx} {X : Lx} {rl hd ot pt it a : Nat} (hX : EX Δ X rl hd ot pt it) (h : isMch a) : X.2 a 5 = .ref (Δ.ba + (a + 3)) := by
  rcases h with rfl | rfl | rfl <;> exact hX.fix (_, 5, _) (by decide)
theorem rx_Mch_6 {Δ : Dx} {X : Lx} {rl hd ot pt it a : Nat} (hX : EX Δ X rl hd ot pt it) (h : isMch a) : X.2 a 6 = .ref (Δ.ba + (a + 4)) := by
  rcases h with rfl | rfl | rfl <;> exact hX.fix (_, 6, _) (by decide)
theorem rx_Mch_7 {Δ : Dx} {X : Lx} {rl hd ot pt it a : Nat} (hX : EX Δ X rl hd ot pt it) (h : isMch a) : X.2 a 7 = .ref (Δ.ba + (a + 5)) := by
  rcases h with rfl | rfl | rfl <;> exact hX.fix (_, 7, _) (by decide)
theorem rx_Mch_8 {Δ : Dx} {X : Lx} {rl hd ot pt it a : Nat} (hX : EX Δ X rl hd ot pt it) (h : isMch a) : X.2 a 8 = .ref (Δ.ba + (a + 6)) := by
  rcases h with rfl | rfl | rfl <;> exact hX.fix (_, 8, _) (by decide)
theorem rx_Mch_9 {Δ : Dx} {X : Lx} {rl hd ot pt it a : Nat} (hX : EX Δ X rl hd ot pt it) (h : isMch a) : X.2 a 9 = .ref (Δ.ba + (a + 7)) := by
  rcases h with rfl | rfl | rfl <;> exact hX.fix (_, 9, _) (by decide)
theorem rx_Mch_10 {Δ : Dx} {X : Lx} {rl hd ot pt it a : Nat} (hX : EX Δ X rl hd ot pt it) (h : isMch a) : X.2 a 10 = .ref (Δ.ba + (a + 8)) := by
  rcases h with rfl | rfl | rfl <;> exact hX.fix (_, 10, _) (by decide)
theorem rx_Mch_11 {Δ : Dx} {X : Lx} {rl hd ot pt it a : Nat} (hX : EX Δ X rl hd ot pt it) (h : isMch a) : X.2 a 11 = .ref (Δ.ba + (a + 9)) := by
  rcases h with rfl | rfl | rfl <;> exact hX.fix (_, 11, _) (by decide)
theorem rx_Mch_12 {Δ : Dx} {X : Lx} {rl hd ot pt it a : Nat} (hX : EX Δ X rl hd ot pt it) (h : isMch a) : X.2 a 12 = .ref (Δ.ba + (a + 10)) := by
  rcases h with rfl | rfl | rfl <;> exact hX.fix (_, 12, _) (by decide)
theorem rx_Mch_13 {Δ : Dx} {X : Lx} {rl hd ot pt it a : Nat} (hX : EX Δ X rl hd ot pt it) (h : isMch a) : X.2 a 13 = .ref (Δ.ba + (a + 11)) := by
  rcases h with rfl | rfl | rfl <;> exact hX.fix (_, 13, _) (by decide)
theorem rx_Mch_14 {Δ : Dx} {X : Lx} {rl hd ot pt it a : Nat} (hX : EX Δ X rl hd ot pt it) (h : isMch a) : X.2 a 14 = .ref (Δ.ba + (a + 12)) := by
  rcases h with rfl | rfl | rfl <;> exact hX.fix (_, 14, _) (by decide)
theorem rx_Mch_15 {Δ : Dx} {X : Lx} {rl hd ot pt it a : Nat} (hX : EX Δ X rl hd ot pt it) (h : isMch a) : X.2 a 15 = .ref (Δ.ba + (a + 13)) := by
  rcases h with rfl | rfl | rfl <;> exact hX.fix (_, 15, _) (by decide)
theorem rx_Mch_16 {Δ : Dx} {X : Lx} {rl hd ot pt it a : Nat} (hX : EX Δ X rl hd ot pt it) (h : isMch a) : X.2 a 16 = .ref (Δ.ba + (a + 14)) := by
  rcases h with rfl | rfl | rfl <;> exact hX.fix (_, 16, _) (by decide)
theorem rx_Mch_17 {Δ : Dx} {X : Lx} {rl hd ot pt it a : Nat} (hX : EX Δ X rl hd ot pt it) (h : isMch a) : X.2 a 17 = .ref (Δ.ba + (a + 15)) := by
  rcases h with rfl | rfl | rfl <;> exact hX.fix (_, 17, _) (by decide)
theorem rx_Mch_18 {Δ : Dx} {X : Lx} {rl hd ot pt it a : Nat} (hX : EX Δ X rl hd ot pt it) (h : isMch a) : X.2 a 18 = .ref (Δ.ba + (a + 17)) := by
  rcases h with rfl | rfl | rfl <;> exact hX.fix (_, 18, _) (by decide)
theorem rx_Pol_1 {Δ : Dx} {X : Lx} {rl hd ot pt it a : Nat} (hX : EX Δ X rl hd ot pt it) (h : isPol a) : X.2 a 1 = .ref (Δ.ba + (a + 1)) := by
  rcases h with rfl | rfl | rfl <;> exact hX.fix (_, 1, _) (by decide)
theorem rx_Pol_2 {Δ : Dx} {X : Lx} {rl hd ot pt it a : Nat} (hX : EX Δ X rl hd ot pt it) (h : isPol a) : X.2 a 2 = .ref (Δ.ba + (a + 2)) := by
  rcases h with rfl | rfl | rfl <;> exact hX.fix (_, 2, _) (by decide)
theorem rx_Pol_3 {Δ : Dx} {X : Lx} {rl hd ot pt it a : Nat} (hX : EX Δ X rl hd ot pt it) (h : isPol a) : X.2 a 3 = .ref (Δ.ba + (a + 3)) := by
  rcases h with rfl | rfl | rfl <;> exact hX.fix (_, 3, _) (by decide)
theorem rx_Pol_4 {Δ : Dx} {X : Lx} {rl hd ot pt it a : Nat} (hX : EX Δ X rl hd ot pt it) (h : isPol a) : X.2 a 4 = .ref (Δ.ba + (a + 4)) := by
  rcases h with rfl | rfl | rfl <;> exact hX.fix (_, 4, _) (by decide)
theorem rx_Pol_5 {Δ : Dx} {X : Lx} {rl hd ot pt it a : Nat} (hX : EX Δ X rl hd ot pt it) (h : isPol a) : X.2 a 5 = .ref (Δ.ba + (a + 5)) := by
  rcases h with rfl | rfl | rfl <;> exact hX.fix (_, 5, _) (by decide)
theorem rx_Pol_6 {Δ : Dx} {X : Lx} {rl hd ot pt it a : Nat} (hX : EX Δ X rl hd ot pt it) (h : isPol a) : X.2 a 6 = .ref (Δ.ba + (a + 6)) := by
  rcases h with rfl | rfl | rfl <;> exact hX.fix (_, 6, _) (by decide)
theorem rx_Rng_4 {Δ : Dx} {X : Lx} {rl hd ot pt it a : Nat} (hX : EX Δ X rl hd ot pt it) (h : isRng a) : X.2 a 4 = .ref (Δ.ba + (a + 1)) := by
  rcases h with rfl | rfl | rfl | rfl | rfl | rfl <;> exact hX.fix (_, 4, _) (by decide)
theorem rx_Wrk_0 {Δ : Dx} {X : Lx} {rl hd ot pt it a : Nat} (hX : EX Δ X rl hd ot pt it) (h : isWrk a) : X.2 a 0 = .ref (Δ.ba + (a + 1)) := by
  rcases h with rfl | rfl | rfl <;> exact hX.fix (_, 0, _) (by decide)
theorem rx_Wrk_1 {Δ : Dx} {X : Lx} {rl hd ot pt it a : Nat} (hX : EX Δ X rl hd ot pt it) (h : isWrk a) : X.2 a 1 = .ref (Δ.ba + (a + 2)) := by
  rcases h with rfl | rfl | rfl <;> exact hX.fix (_, 1, _) (by decide)
theorem rx_Rdr_6 {Δ : Dx} {X : Lx} {rl hd ot pt it : Nat} (hX : EX Δ X rl hd ot pt it) : X.2 1 6 = .ref (Δ.ba + 2) := hX.fix (1, 6, 2) (by decide)
theorem rx_Rdr_7 {Δ : Dx} {X : Lx} {rl hd ot pt it : Nat} (hX : EX Δ X rl hd ot pt it) : X.2 1 7 = .ref (Δ.ba + 3) := hX.fix (1, 7, 3) (by decide)
theorem rx_Rdr_8 {Δ : Dx} {X : Lx} {rl hd ot pt it : Nat} (hX : EX Δ X rl hd ot pt it) : X.2 1 8 = .ref (Δ.ba + 4) := hX.fix (1, 8, 4) (by decide)
theorem rx_Rdr_9 {Δ : Dx} {X : Lx} {rl hd ot pt it : Nat} (hX : EX Δ X rl hd ot pt it) : X.2 1 9 = .ref (Δ.ba + 5) := hX.fix (1, 9, 5) (by decide)
theorem rx_Rdr_10 {Δ : Dx} {X : Lx} {rl hd ot pt it : Nat} (hX : EX Δ X rl hd ot pt it) : X.2 1 10 = .ref (Δ.ba + 6) := hX.fix (1, 10, 6) (by decide)
theorem rx_Prd_0 {Δ : Dx} {X : Lx} {rl hd ot pt it : Nat} (hX : EX Δ X rl hd ot pt it) : X.2 7 0 = .ref (Δ.ba + 1) := hX.fix (7, 0, 1) (by decide)
theorem rx_Img_0 {Δ : Dx} {X : Lx} {rl hd ot pt it : Nat} (hX : EX Δ X rl hd ot pt it) : X.2 15 0 = .ref (Δ.ba + 1) := hX.fix (15, 0, 1) (by decide)
theorem rx_Stp_0 {Δ : Dx} {X : Lx} {rl hd ot pt it : Nat} (hX : EX Δ X rl hd ot pt it) : X.2 35 0 = .ref (Δ.ba + 36) := hX.fix (35, 0, 36) (by decide)
theorem rx_Stp_1 {Δ : Dx} {X : Lx} {rl hd ot pt it : Nat} (hX : EX Δ X rl hd ot pt it) : X.2 35 1 = .ref (Δ.ba + 39) := hX.fix (35, 1, 39) (by decide)
theorem rx_Cmp_1 {Δ : Dx} {X : Lx} {rl hd ot pt it : Nat} (hX : EX Δ X rl hd ot pt it) : X.2 40 1 = .ref (Δ.ba + 41) := hX.fix (40, 1, 41) (by decide)
theorem rx_Cmp_2 {Δ : Dx} {X : Lx} {rl hd ot pt it : Nat} (hX : EX Δ X rl hd ot pt it) : X.2 40 2 = .ref (Δ.ba + 42) := hX.fix (40, 2, 42) (by decide)
theorem rx_Cmp_3 {Δ : Dx} {X : Lx} {rl hd ot pt it : Nat} (hX : EX Δ X rl hd ot pt it) : X.2 40 3 = .ref (Δ.ba + 45) := hX.fix (40, 3, 45) (by decide)
theorem rx_Eng_0 {Δ : Dx} {X : Lx} {rl hd ot pt it : Nat} (hX : EX Δ X rl hd ot pt it) : X.2 0 0 = .ref (Δ.ba + 1) := hX.fix (0, 0, 1) (by decide)
theorem rx_Eng_1 {Δ : Dx} {X : Lx} {rl hd ot pt it : Nat} (hX : EX Δ X rl hd ot pt it) : X.2 0 1 = .ref (Δ.ba + 7) := hX.fix (0, 1, 7) (by decide)
theorem rx_Eng_2 {Δ : Dx} {X : Lx} {rl hd ot pt it : Nat} (hX : EX Δ X rl hd ot pt it) : X.2 0 2 = .ref (Δ.ba + 15) := hX.fix (0, 2, 15) (by decide)
theorem rx_Eng_3 {Δ : Dx} {X : Lx} {rl hd ot pt it : Nat} (hX : EX Δ X rl hd ot pt it) : X.2 0 3 = .ref (Δ.ba + 35) := hX.fix (0, 3, 35) (by decide)
theorem rx_Eng_4 {Δ : Dx} {X : Lx} {rl hd ot pt it : Nat} (hX : EX Δ X rl hd ot pt it) : X.2 0 4 = .ref (Δ.ba + 40) := hX.fix (0, 4, 40) (by decide)
theorem rx_Eng_5 {Δ : Dx} {X : Lx} {rl hd ot pt it : Nat} (hX : EX Δ X rl hd ot pt it) : X.2 0 5 = .ref (Δ.ba + 48) := hX.fix (0, 5, 48) (by decide)
theorem rx_Eng_6 {Δ : Dx} {X : Lx} {rl hd ot pt it : Nat} (hX : EX Δ X rl hd ot pt it) : X.2 0 6 = .ref (Δ.ba + 55) := hX.fix (0, 6, 55) (by decide)
theorem oc_Mch {a : Nat} (h : isMch a) : Ob NN a 5 := by
  rcases h with rfl | rfl | rfl <;> exact ⟨by decide, rfl⟩
theorem oc_Pol {a : Nat} (h : isPol a) : Ob NN a 3 := by
  rcases h with rfl | rfl | rfl <;> exact ⟨by decide, rfl⟩
theorem oc_Rng {a : Nat} (h : isRng a) : Ob NN a 6 := by
  rcases h with rfl | rfl | rfl | rfl | rfl | rfl <;> exact ⟨by decide, rfl⟩
theorem oc_Wrk {a : Nat} (h : isWrk a) : Ob NN a 8 := by
  rcases h with rfl | rfl | rfl <;> exact ⟨by decide, rfl⟩
theorem oc_Eng : Ob NN 0 0 := ⟨by decide, rfl⟩
theorem oc_Rdr : Ob NN 1 1 := ⟨by decide, rfl⟩
theorem oc_Prd : Ob NN 7 2 := ⟨by decide, rfl⟩
theorem oc_Img : Ob NN 15 4 := ⟨by decide, rfl⟩
theorem oc_Stp : Ob NN 35 7 := ⟨by decide, rfl⟩
theorem oc_Cmp : Ob NN 40 9 := ⟨by decide, rfl⟩
theorem ax_Mch_3 {a : Nat} (h : isMch a) : Ar NN (a + 1) .int 64 := by
  rcases h with rfl | rfl | rfl <;> exact ⟨by decide, rfl⟩
theorem ax_Mch_4 {a : Nat} (h : isMch a) : Ar NN (a + 2) .int 64 := by
  rcases h with rfl | rfl | rfl <;> exact ⟨by decide, rfl⟩
theorem ax_Mch_5 {a : Nat} (h : isMch a) : Ar NN (a + 3) .int 96 := by
  rcases h with rfl | rfl | rfl <;> exact ⟨by decide, rfl⟩
theorem ax_Mch_6 {a : Nat} (h : isMch a) : Ar NN (a + 4) .int 96 := by
  rcases h with rfl | rfl | rfl <;> exact ⟨by decide, rfl⟩
theorem ax_Mch_7 {a : Nat} (h : isMch a) : Ar NN (a + 5) .int 96 := by
  rcases h with rfl | rfl | rfl <;> exact ⟨by decide, rfl⟩
theorem ax_Mch_8 {a : Nat} (h : isMch a) : Ar NN (a + 6) .int 9 := by
  rcases h with rfl | rfl | rfl <;> exact ⟨by decide, rfl⟩
theorem ax_Mch_9 {a : Nat} (h : isMch a) : Ar NN (a + 7) .int 9 := by
  rcases h with rfl | rfl | rfl <;> exact ⟨by decide, rfl⟩
theorem ax_Mch_10 {a : Nat} (h : isMch a) : Ar NN (a + 8) .int 16 := by
  rcases h with rfl | rfl | rfl <;> exact ⟨by decide, rfl⟩
theorem ax_Mch_11 {a : Nat} (h : isMch a) : Ar NN (a + 9) .int 16 := by
  rcases h with rfl | rfl | rfl <;> exact ⟨by decide, rfl⟩
theorem ax_Mch_12 {a : Nat} (h : isMch a) : Ar NN (a + 10) .int 40 := by
  rcases h with rfl | rfl | rfl <;> exact ⟨by decide, rfl⟩
theorem ax_Mch_13 {a : Nat} (h : isMch a) : Ar NN (a + 11) .int 60 := by
  rcases h with rfl | rfl | rfl <;> exact ⟨by decide, rfl⟩
theorem ax_Mch_14 {a : Nat} (h : isMch a) : Ar NN (a + 12) .int 60 := by
  rcases h with rfl | rfl | rfl <;> exact ⟨by decide, rfl⟩
theorem ax_Mch_15 {a : Nat} (h : isMch a) : Ar NN (a + 13) .int 8 := by
  rcases h with rfl | rfl | rfl <;> exact ⟨by decide, rfl⟩
theorem ax_Mch_16 {a : Nat} (h : isMch a) : Ar NN (a + 14) .int 88 := by
  rcases h with rfl | rfl | rfl <;> exact ⟨by decide, rfl⟩
theorem ax_Pol_1 {a : Nat} (h : isPol a) : Ar NN (a + 1) .int 900 := by
  rcases h with rfl | rfl | rfl <;> exact ⟨by decide, rfl⟩
theorem ax_Pol_2 {a : Nat} (h : isPol a) : Ar NN (a + 2) .int 900 := by
  rcases h with rfl | rfl | rfl <;> exact ⟨by decide, rfl⟩
theorem ax_Pol_3 {a : Nat} (h : isPol a) : Ar NN (a + 3) .int 22 := by
  rcases h with rfl | rfl | rfl <;> exact ⟨by decide, rfl⟩
theorem ax_Pol_4 {a : Nat} (h : isPol a) : Ar NN (a + 4) .int 22 := by
  rcases h with rfl | rfl | rfl <;> exact ⟨by decide, rfl⟩
theorem ax_Pol_5 {a : Nat} (h : isPol a) : Ar NN (a + 5) .int 22 := by
  rcases h with rfl | rfl | rfl <;> exact ⟨by decide, rfl⟩
theorem ax_Pol_6 {a : Nat} (h : isPol a) : Ar NN (a + 6) .int 22 := by
  rcases h with rfl | rfl | rfl <;> exact ⟨by decide, rfl⟩
theorem ax_Rng_4 {a : Nat} (h : isRng a) : Ar NN (a + 1) .int (lenA (a + 1)) := by
  rcases h with rfl | rfl | rfl | rfl | rfl | rfl <;> exact ⟨by decide, rfl⟩
theorem ax_Wrk_0 {a : Nat} (h : isWrk a) : Ar NN (a + 1) .int 25 := by
  rcases h with rfl | rfl | rfl <;> exact ⟨by decide, rfl⟩
theorem ax_Wrk_1 {a : Nat} (h : isWrk a) : Ar NN (a + 2) .int 64 := by
  rcases h with rfl | rfl | rfl <;> exact ⟨by decide, rfl⟩
theorem ax_Rdr_6 : Ar NN 2 .char 900 := ⟨by decide, rfl⟩
theorem ax_Rdr_7 : Ar NN 3 .int 901 := ⟨by decide, rfl⟩
theorem ax_Rdr_8 : Ar NN 4 .int 901 := ⟨by decide, rfl⟩
theorem ax_Rdr_9 : Ar NN 5 .int 901 := ⟨by decide, rfl⟩
theorem ax_Rdr_10 : Ar NN 6 .long 50 := ⟨by decide, rfl⟩
theorem ax_Stp_1 : Ar NN 39 .int 6 := ⟨by decide, rfl⟩
theorem ax_Cmp_1 : Ar NN 41 .int 15 := ⟨by decide, rfl⟩
theorem ir_17 {a : Nat} (h : isMch a) : isRng (a + 15) := by
  rcases h with rfl | rfl | rfl <;> decide
theorem ir_18 {a : Nat} (h : isMch a) : isRng (a + 17) := by
  rcases h with rfl | rfl | rfl <;> decide
theorem isA_of {a n : Nat} (h : Ar NN a .int n) : isA a := by
  have e : lenA a = n := by
    unfold lenA
    rw [h.2]
  rw [isA, e]
  exact h
