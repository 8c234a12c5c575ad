/-! twin -/
def CR (I : IM) (a b N : Nat) : IM := fun c j => if c = b ∧ j < N then I a j else I c j
theorem CR_b {I : IM} {a b N c : Nat} (h : c ≠ b) : CR I a b N c = I c := by
  funext j
  unfold CR
  rw [if_neg (fun z => h z.1)]
theorem CR_at {I : IM} {a b N j : Nat} (h : j < N) : CR I a b N b j = I a j := by
  unfold CR
  rw [if_pos ⟨rfl, h⟩]
theorem cr_f {I : IM} {a b N : Nat} (ha : lenA a = N) (hb : lenA b = N) (hN : N ≤ 1000) : f_Eng_copyRow a b I = some (CR I a b N) := by
  have hm : minI (Int32.ofNat N) (Int32.ofNat N) = nI N := by unfold minI; split <;> rfl
  have h0 : ¬ nI N < 0 := by
    rw [ti, nI_toInt (by omega)]
    simp only [Int32.reduceToInt]
    omega
  have hz : (0 : Int32).toNatClampNeg = 0 := rfl
  unfold f_Eng_copyRow
  rw [ha, hb, hm, chk_i h0, nkc (by omega), hz, chk_i (by omega), chk_i (by omega), lt]
  congr 1
  funext c j
  unfold cpy upA va_cpy CR
  by_cases q : c = b
  · subst q
    rw [if_pos rfl]
    by_cases h : j < N
    · rw [if_pos ⟨by omega, by omega⟩, if_pos ⟨rfl, h⟩, Nat.zero_add, Nat.sub_zero]
    · rw [if_neg (fun z => h (by omega)), if_neg (fun z => h z.2)]
  · rw [if_neg q, if_neg (fun z => q z.1)]
theorem ln_1 {m : Nat} (h : isMch m) : lenA (m + 1) = 64 := by rcases h with rfl | rfl | rfl <;> rfl
theorem ln_2 {m : Nat} (h : isMch m) : lenA (m + 2) = 64 := by rcases h with rfl | rfl | rfl <;> rfl
theorem ln_3 {m : Nat} (h : isMch m) : lenA (m + 3) = 96 := by rcases h with rfl | rfl | rfl <;> rfl
theorem ln_4 {m : Nat} (h : isMch m) : lenA (m + 4) = 96 := by rcases h with rfl | rfl | rfl <;> rfl
theorem ln_5 {m : Nat} (h : isMch m) : lenA (m + 5) = 96 := by rcases h with rfl | rfl | rfl <;> rfl
theorem ln_6 {m : Nat} (h : isMch m) : lenA (m + 6) = 9 := by rcases h with rfl | rfl | rfl <;> rfl
theorem ln_7 {m : Nat} (h : isMch m) : lenA (m + 7) = 9 := by rcases h with rfl | rfl | rfl <;> rfl
theorem ln_8 {m : Nat} (h : isMch m) : lenA (m + 8) = 16 := by rcases h with rfl | rfl | rfl <;> rfl
theorem ln_9 {m : Nat} (h : isMch m) : lenA (m + 9) = 16 := by rcases h with rfl | rfl | rfl <;> rfl
theorem ln_10 {m : Nat} (h : isMch m) : lenA (m + 10) = 40 := by rcases h with rfl | rfl | rfl <;> rfl
theorem ln_11 {m : Nat} (h : isMch m) : lenA (m + 11) = 60 := by rcases h with rfl | rfl | rfl <;> rfl
theorem ln_12 {m : Nat} (h : isMch m) : lenA (m + 12) = 60 := by rcases h with rfl | rfl | rfl <;> rfl
theorem ln_13 {m : Nat} (h : isMch m) : lenA (m + 13) = 8 := by rcases h with rfl | rfl | rfl <;> rfl
theorem ln_14 {m : Nat} (h : isMch m) : lenA (m + 14) = 88 := by rcases h with rfl | rfl | rfl <;> rfl
theorem ln_16 {m : Nat} (h : isMch m) : lenA (m + 16) = 200 := by rcases h with rfl | rfl | rfl <;> rfl
theorem ln_18 {m : Nat} (h : isMch m) : lenA (m + 18) = 96 := by rcases h with rfl | rfl | rfl <;> rfl
def beA (I : IM) (x y : Nat) : IM := (CR (up (up (CR (up (up (CR (CR (CR (CR (CR (CR (CR (CR (CR (CR (CR (CR (CR (CR (up (up (up I x 0 (I y 0)) x 1 (I y 1)) x 2 (I y 2)) (y + 1) (x + 1) 64) (y + 2) (x + 2) 64) (y + 3) (x + 3) 96) (y + 4) (x + 4) 96) (y + 5) (x + 5) 96) (y + 6) (x + 6) 9) (y + 7) (x + 7) 9) (y + 8) (x + 8) 16) (y + 9) (x + 9) 16) (y + 10) (x + 10) 40) (y + 11) (x + 11) 60) (y + 12) (x + 12) 60) (y + 13) (x + 13) 8) (y + 14) (x + 14) 88) (x + 15) 0 (I (y + 15) 0)) (x + 15) 1 (I (y + 15) 1)) (y + 16) (x + 16) 200) (x + 17) 0 (I (y + 17) 0)) (x + 17) 1 (I (y + 17) 1)) (y + 18) (x + 18) 96)
set_option maxRecDepth 20000 in
set_option maxHeartbeats 4000000 in
theorem be_f {I : IM} {x y : Nat} (hx : isMch x) (hy : isMch y) (hne : x + 19 ≤ y ∨ y + 19 ≤ x) : f_Mch_become x y I = some (beA I x y) := by
  unfold f_Mch_become
  simp only [lt, up_o (show y ≠ x by omega)]
  rw [cr_f (ln_1 hy) (ln_1 hx) (by decide), Option.bind_some]
  rw [cr_f (ln_2 hy) (ln_2 hx) (by decide), Option.bind_some]
  rw [cr_f (ln_3 hy) (ln_3 hx) (by decide), Option.bind_some]
  rw [cr_f (ln_4 hy) (ln_4 hx) (by decide), Option.bind_some]
  rw [cr_f (ln_5 hy) (ln_5 hx) (by decide), Option.bind_some]
  rw [cr_f (ln_6 hy) (ln_6 hx) (by decide), Option.bind_some]
  rw [cr_f (ln_7 hy) (ln_7 hx) (by decide), Option.bind_some]
  rw [cr_f (ln_8 hy) (ln_8 hx) (by decide), Option.bind_some]
  rw [cr_f (ln_9 hy) (ln_9 hx) (by decide), Option.bind_some]
  rw [cr_f (ln_10 hy) (ln_10 hx) (by decide), Option.bind_some]
  rw [cr_f (ln_11 hy) (ln_11 hx) (by decide), Option.bind_some]
  rw [cr_f (ln_12 hy) (ln_12 hx) (by decide), Option.bind_some]
  rw [cr_f (ln_13 hy) (ln_13 hx) (by decide), Option.bind_some]
  rw [cr_f (ln_14 hy) (ln_14 hx) (by decide), Option.bind_some]
  unfold f_Rng_become
  have q15 : ∀ J : IM, (∀ c, c ≠ x → (c < x ∨ x + 15 ≤ c) → J c = I c) → J (y + 15) = I (y + 15) := fun J hJ => hJ _ (by omega) (by omega)
  obtain ⟨A, hA⟩ : ∃ z, z = (CR (CR (CR (CR (CR (CR (CR (CR (CR (CR (CR (CR (CR (CR (up (up (up I x 0 (I y 0)) x 1 (I y 1)) x 2 (I y 2)) (y + 1) (x + 1) 64) (y + 2) (x + 2) 64) (y + 3) (x + 3) 96) (y + 4) (x + 4) 96) (y + 5) (x + 5) 96) (y + 6) (x + 6) 9) (y + 7) (x + 7) 9) (y + 8) (x + 8) 16) (y + 9) (x + 9) 16) (y + 10) (x + 10) 40) (y + 11) (x + 11) 60) (y + 12) (x + 12) 60) (y + 13) (x + 13) 8) (y + 14) (x + 14) 88) := ⟨_, rfl⟩
  have a15 : A (y + 15) = I (y + 15) := by
    rw [hA, CR_b (by omega), CR_b (by omega), CR_b (by omega), CR_b (by omega), CR_b (by omega), CR_b (by omega), CR_b (by omega), CR_b (by omega), CR_b (by omega), CR_b (by omega), CR_b (by omega), CR_b (by omega), CR_b (by omega), CR_b (by omega), fu (by omega), fu (by omega), fu (by omega)]
  have a17 : A (y + 17) = I (y + 17) := by
    rw [hA, CR_b (by omega), CR_b (by omega), CR_b (by omega), CR_b (by omega), CR_b (by omega), CR_b (by omega), CR_b (by omega), CR_b (by omega), CR_b (by omega), CR_b (by omega), CR_b (by omega), CR_b (by omega), CR_b (by omega), CR_b (by omega), fu (by omega), fu (by omega), fu (by omega)]
  rw [← hA]
  simp only [lt, up_o (show y + 15 ≠ x + 15 by omega), a15]
  rw [show x + 15 + 1 = x + 16 from rfl, show y + 15 + 1 = y + 16 from rfl, cr_f (ln_16 hy) (ln_16 hx) (by decide), Option.bind_some, Option.bind_some]
  have b17 : CR (up (up A (x + 15) 0 (I (y + 15) 0)) (x + 15) 1 (I (y + 15) 1)) (y + 16) (x + 16) 200 (y + 17) = I (y + 17) := by
    rw [CR_b (by omega), fu (by omega), fu (by omega), a17]
  simp only [up_o (show y + 17 ≠ x + 17 by omega), b17]
  rw [show x + 17 + 1 = x + 18 from rfl, show y + 17 + 1 = y + 18 from rfl, cr_f (ln_18 hy) (ln_18 hx) (by decide), Option.bind_some, Option.bind_some, hA]
  rfl
set_option maxRecDepth 20000 in
set_option maxHeartbeats 4000000 in
theorem be_s {I : IM} {x y : Nat} (hne : x + 19 ≤ y ∨ y + 19 ≤ x) : (∀ k, k < 64 → beA I x y (x + 1) k = I (y + 1) k) ∧ (∀ k, k < 64 → beA I x y (x + 2) k = I (y + 2) k) ∧ (∀ k, k < 96 → beA I x y (x + 3) k = I (y + 3) k) ∧ (∀ k, k < 96 → beA I x y (x + 4) k = I (y + 4) k) ∧ (∀ k, k < 96 → beA I x y (x + 5) k = I (y + 5) k) ∧ (∀ k, k < 9 → beA I x y (x + 6) k = I (y + 6) k) ∧ (∀ k, k < 9 → beA I x y (x + 7) k = I (y + 7) k) ∧ (∀ k, k < 16 → beA I x y (x + 8) k = I (y + 8) k) ∧ (∀ k, k < 16 → beA I x y (x + 9) k = I (y + 9) k) ∧ (∀ k, k < 40 → beA I x y (x + 10) k = I (y + 10) k) ∧ (∀ k, k < 60 → beA I x y (x + 11) k = I (y + 11) k) ∧ (∀ k, k < 60 → beA I x y (x + 12) k = I (y + 12) k) ∧ (∀ k, k < 8 → beA I x y (x + 13) k = I (y + 13) k) ∧ (∀ k, k < 88 → beA I x y (x + 14) k = I (y + 14) k) ∧ (∀ k, k < 200 → beA I x y (x + 16) k = I (y + 16) k) ∧ (∀ k, k < 96 → beA I x y (x + 18) k = I (y + 18) k) ∧ beA I x y x 0 = I y 0 ∧ beA I x y x 1 = I y 1 ∧ beA I x y x 2 = I y 2 ∧ beA I x y (x + 15) 0 = I (y + 15) 0 ∧ beA I x y (x + 15) 1 = I (y + 15) 1 ∧ beA I x y (x + 17) 0 = I (y + 17) 0 ∧ beA I x y (x + 17) 1 = I (y + 17) 1 ∧ (∀ j, 2 ≤ j → beA I x y (x + 15) j = I (x + 15) j ∧ beA I x y (x + 17) j = I (x + 17) j) ∧ ∀ b, b < x ∨ x + 19 ≤ b → beA I x y b = I b := by
  refine ⟨fun k hk => ?_, fun k hk => ?_, fun k hk => ?_, fun k hk => ?_, fun k hk => ?_, fun k hk => ?_, fun k hk => ?_, fun k hk => ?_, fun k hk => ?_, fun k hk => ?_, fun k hk => ?_, fun k hk => ?_, fun k hk => ?_, fun k hk => ?_, fun k hk => ?_, fun k hk => ?_, ?_, ?_, ?_, ?_, ?_, ?_, ?_, fun j hj => ⟨?_, ?_⟩, fun b hb => ?_⟩
  · unfold beA
    rw [CR_b (c := x + 1) (by omega), fu (b := x + 1) (by omega), fu (b := x + 1) (by omega), CR_b (c := x + 1) (by omega), fu (b := x + 1) (by omega), fu (b := x + 1) (by omega), CR_b (c := x + 1) (by omega), CR_b (c := x + 1) (by omega), CR_b (c := x + 1) (by omega), CR_b (c := x + 1) (by omega), CR_b (c := x + 1) (by omega), CR_b (c := x + 1) (by omega), CR_b (c := x + 1) (by omega), CR_b (c := x + 1) (by omega), CR_b (c := x + 1) (by omega), CR_b (c := x + 1) (by omega), CR_b (c := x + 1) (by omega), CR_b (c := x + 1) (by omega), CR_b (c := x + 1) (by omega)]
    rw [CR_at hk]
    rw [fu (b := y + 1) (by omega), fu (b := y + 1) (by omega), fu (b := y + 1) (by omega)]
  · unfold beA
    rw [CR_b (c := x + 2) (by omega), fu (b := x + 2) (by omega), fu (b := x + 2) (by omega), CR_b (c := x + 2) (by omega), fu (b := x + 2) (by omega), fu (b := x + 2) (by omega), CR_b (c := x + 2) (by omega), CR_b (c := x + 2) (by omega), CR_b (c := x + 2) (by omega), CR_b (c := x + 2) (by omega), CR_b (c := x + 2) (by omega), CR_b (c := x + 2) (by omega), CR_b (c := x + 2) (by omega), CR_b (c := x + 2) (by omega), CR_b (c := x + 2) (by omega), CR_b (c := x + 2) (by omega), CR_b (c := x + 2) (by omega), CR_b (c := x + 2) (by omega)]
    rw [CR_at hk]
    rw [CR_b (c := y + 2) (by omega), fu (b := y + 2) (by omega), fu (b := y + 2) (by omega), fu (b := y + 2) (by omega)]
  · unfold beA
    rw [CR_b (c := x + 3) (by omega), fu (b := x + 3) (by omega), fu (b := x + 3) (by omega), CR_b (c := x + 3) (by omega), fu (b := x + 3) (by omega), fu (b := x + 3) (by omega), CR_b (c := x + 3) (by omega), CR_b (c := x + 3) (by omega), CR_b (c := x + 3) (by omega), CR_b (c := x + 3) (by omega), CR_b (c := x + 3) (by omega), CR_b (c := x + 3) (by omega), CR_b (c := x + 3) (by omega), CR_b (c := x + 3) (by omega), CR_b (c := x + 3) (by omega), CR_b (c := x + 3) (by omega), CR_b (c := x + 3) (by omega)]
    rw [CR_at hk]
    rw [CR_b (c := y + 3) (by omega), CR_b (c := y + 3) (by omega), fu (b := y + 3) (by omega), fu (b := y + 3) (by omega), fu (b := y + 3) (by omega)]
  · unfold beA
    rw [CR_b (c := x + 4) (by omega), fu (b := x + 4) (by omega), fu (b := x + 4) (by omega), CR_b (c := x + 4) (by omega), fu (b := x + 4) (by omega), fu (b := x + 4) (by omega), CR_b (c := x + 4) (by omega), CR_b (c := x + 4) (by omega), CR_b (c := x + 4) (by omega), CR_b (c := x + 4) (by omega), CR_b (c := x + 4) (by omega), CR_b (c := x + 4) (by omega), CR_b (c := x + 4) (by omega), CR_b (c := x + 4) (by omega), CR_b (c := x + 4) (by omega), CR_b (c := x + 4) (by omega)]
    rw [CR_at hk]
    rw [CR_b (c := y + 4) (by omega), CR_b (c := y + 4) (by omega), CR_b (c := y + 4) (by omega), fu (b := y + 4) (by omega), fu (b := y + 4) (by omega), fu (b := y + 4) (by omega)]
  · unfold beA
    rw [CR_b (c := x + 5) (by omega), fu (b := x + 5) (by omega), fu (b := x + 5) (by omega), CR_b (c := x + 5) (by omega), fu (b := x + 5) (by omega), fu (b := x + 5) (by omega), CR_b (c := x + 5) (by omega), CR_b (c := x + 5) (by omega), CR_b (c := x + 5) (by omega), CR_b (c := x + 5) (by omega), CR_b (c := x + 5) (by omega), CR_b (c := x + 5) (by omega), CR_b (c := x + 5) (by omega), CR_b (c := x + 5) (by omega), CR_b (c := x + 5) (by omega)]
    rw [CR_at hk]
    rw [CR_b (c := y + 5) (by omega), CR_b (c := y + 5) (by omega), CR_b (c := y + 5) (by omega), CR_b (c := y + 5) (by omega), fu (b := y + 5) (by omega), fu (b := y + 5) (by omega), fu (b := y + 5) (by omega)]
  · unfold beA
    rw [CR_b (c := x + 6) (by omega), fu (b := x + 6) (by omega), fu (b := x + 6) (by omega), CR_b (c := x + 6) (by omega), fu (b := x + 6) (by omega), fu (b := x + 6) (by omega), CR_b (c := x + 6) (by omega), CR_b (c := x + 6) (by omega), CR_b (c := x + 6) (by omega), CR_b (c := x + 6) (by omega), CR_b (c := x + 6) (by omega), CR_b (c := x + 6) (by omega), CR_b (c := x + 6) (by omega), CR_b (c := x + 6) (by omega)]
    rw [CR_at hk]
    rw [CR_b (c := y + 6) (by omega), CR_b (c := y + 6) (by omega), CR_b (c := y + 6) (by omega), CR_b (c := y + 6) (by omega), CR_b (c := y + 6) (by omega), fu (b := y + 6) (by omega), fu (b := y + 6) (by omega), fu (b := y + 6) (by omega)]
  · unfold beA
    rw [CR_b (c := x + 7) (by omega), fu (b := x + 7) (by omega), fu (b := x + 7) (by omega), CR_b (c := x + 7) (by omega), fu (b := x + 7) (by omega), fu (b := x + 7) (by omega), CR_b (c := x + 7) (by omega), CR_b (c := x + 7) (by omega), CR_b (c := x + 7) (by omega), CR_b (c := x + 7) (by omega), CR_b (c := x + 7) (by omega), CR_b (c := x + 7) (by omega), CR_b (c := x + 7) (by omega)]
    rw [CR_at hk]
    rw [CR_b (c := y + 7) (by omega), CR_b (c := y + 7) (by omega), CR_b (c := y + 7) (by omega), CR_b (c := y + 7) (by omega), CR_b (c := y + 7) (by omega), CR_b (c := y + 7) (by omega), fu (b := y + 7) (by omega), fu (b := y + 7) (by omega), fu (b := y + 7) (by omega)]
  · unfold beA
    rw [CR_b (c := x + 8) (by omega), fu (b := x + 8) (by omega), fu (b := x + 8) (by omega), CR_b (c := x + 8) (by omega), fu (b := x + 8) (by omega), fu (b := x + 8) (by omega), CR_b (c := x + 8) (by omega), CR_b (c := x + 8) (by omega), CR_b (c := x + 8) (by omega), CR_b (c := x + 8) (by omega), CR_b (c := x + 8) (by omega), CR_b (c := x + 8) (by omega)]
    rw [CR_at hk]
    rw [CR_b (c := y + 8) (by omega), CR_b (c := y + 8) (by omega), CR_b (c := y + 8) (by omega), CR_b (c := y + 8) (by omega), CR_b (c := y + 8) (by omega), CR_b (c := y + 8) (by omega), CR_b (c := y + 8) (by omega), fu (b := y + 8) (by omega), fu (b := y + 8) (by omega), fu (b := y + 8) (by omega)]
  · unfold beA
    rw [CR_b (c := x + 9) (by omega), fu (b := x + 9) (by omega), fu (b := x + 9) (by omega), CR_b (c := x + 9) (by omega), fu (b := x + 9) (by omega), fu (b := x + 9) (by omega), CR_b (c := x + 9) (by omega), CR_b (c := x + 9) (by omega), CR_b (c := x + 9) (by omega), CR_b (c := x + 9) (by omega), CR_b (c := x + 9) (by omega)]
    rw [CR_at hk]
    rw [CR_b (c := y + 9) (by omega), CR_b (c := y + 9) (by omega), CR_b (c := y + 9) (by omega), CR_b (c := y + 9) (by omega), CR_b (c := y + 9) (by omega), CR_b (c := y + 9) (by omega), CR_b (c := y + 9) (by omega), CR_b (c := y + 9) (by omega), fu (b := y + 9) (by omega), fu (b := y + 9) (by omega), fu (b := y + 9) (by omega)]
  · unfold beA
    rw [CR_b (c := x + 10) (by omega), fu (b := x + 10) (by omega), fu (b := x + 10) (by omega), CR_b (c := x + 10) (by omega), fu (b := x + 10) (by omega), fu (b := x + 10) (by omega), CR_b (c := x + 10) (by omega), CR_b (c := x + 10) (by omega), CR_b (c := x + 10) (by omega), CR_b (c := x + 10) (by omega)]
    rw [CR_at hk]
    rw [CR_b (c := y + 10) (by omega), CR_b (c := y + 10) (by omega), CR_b (c := y + 10) (by omega), CR_b (c := y + 10) (by omega), CR_b (c := y + 10) (by omega), CR_b (c := y + 10) (by omega), CR_b (c := y + 10) (by omega), CR_b (c := y + 10) (by omega), CR_b (c := y + 10) (by omega), fu (b := y + 10) (by omega), fu (b := y + 10) (by omega), fu (b := y + 10) (by omega)]
  · unfold beA
    rw [CR_b (c := x + 11) (by omega), fu (b := x + 11) (by omega), fu (b := x + 11) (by omega), CR_b (c := x + 11) (by omega), fu (b := x + 11) (by omega), fu (b := x + 11) (by omega), CR_b (c := x + 11) (by omega), CR_b (c := x + 11) (by omega), CR_b (c := x + 11) (by omega)]
    rw [CR_at hk]
    rw [CR_b (c := y + 11) (by omega), CR_b (c := y + 11) (by omega), CR_b (c := y + 11) (by omega), CR_b (c := y + 11) (by omega), CR_b (c := y + 11) (by omega), CR_b (c := y + 11) (by omega), CR_b (c := y + 11) (by omega), CR_b (c := y + 11) (by omega), CR_b (c := y + 11) (by omega), CR_b (c := y + 11) (by omega), fu (b := y + 11) (by omega), fu (b := y + 11) (by omega), fu (b := y + 11) (by omega)]
  · unfold beA
    rw [CR_b (c := x + 12) (by omega), fu (b := x + 12) (by omega), fu (b := x + 12) (by omega), CR_b (c := x + 12) (by omega), fu (b := x + 12) (by omega), fu (b := x + 12) (by omega), CR_b (c := x + 12) (by omega), CR_b (c := x + 12) (by omega)]
    rw [CR_at hk]
    rw [CR_b (c := y + 12) (by omega), CR_b (c := y + 12) (by omega), CR_b (c := y + 12) (by omega), CR_b (c := y + 12) (by omega), CR_b (c := y + 12) (by omega), CR_b (c := y + 12) (by omega), CR_b (c := y + 12) (by omega), CR_b (c := y + 12) (by omega), CR_b (c := y + 12) (by omega), CR_b (c := y + 12) (by omega), CR_b (c := y + 12) (by omega), fu (b := y + 12) (by omega), fu (b := y + 12) (by omega), fu (b := y + 12) (by omega)]
  · unfold beA
    rw [CR_b (c := x + 13) (by omega), fu (b := x + 13) (by omega), fu (b := x + 13) (by omega), CR_b (c := x + 13) (by omega), fu (b := x + 13) (by omega), fu (b := x + 13) (by omega), CR_b (c := x + 13) (by omega)]
    rw [CR_at hk]
    rw [CR_b (c := y + 13) (by omega), CR_b (c := y + 13) (by omega), CR_b (c := y + 13) (by omega), CR_b (c := y + 13) (by omega), CR_b (c := y + 13) (by omega), CR_b (c := y + 13) (by omega), CR_b (c := y + 13) (by omega), CR_b (c := y + 13) (by omega), CR_b (c := y + 13) (by omega), CR_b (c := y + 13) (by omega), CR_b (c := y + 13) (by omega), CR_b (c := y + 13) (by omega), fu (b := y + 13) (by omega), fu (b := y + 13) (by omega), fu (b := y + 13) (by omega)]
  · unfold beA
    rw [CR_b (c := x + 14) (by omega), fu (b := x + 14) (by omega), fu (b := x + 14) (by omega), CR_b (c := x + 14) (by omega), fu (b := x + 14) (by omega), fu (b := x + 14) (by omega)]
    rw [CR_at hk]
    rw [CR_b (c := y + 14) (by omega), CR_b (c := y + 14) (by omega), CR_b (c := y + 14) (by omega), CR_b (c := y + 14) (by omega), CR_b (c := y + 14) (by omega), CR_b (c := y + 14) (by omega), CR_b (c := y + 14) (by omega), CR_b (c := y + 14) (by omega), CR_b (c := y + 14) (by omega), CR_b (c := y + 14) (by omega), CR_b (c := y + 14) (by omega), CR_b (c := y + 14) (by omega), CR_b (c := y + 14) (by omega), fu (b := y + 14) (by omega), fu (b := y + 14) (by omega), fu (b := y + 14) (by omega)]
  · unfold beA
    rw [CR_b (c := x + 16) (by omega), fu (b := x + 16) (by omega), fu (b := x + 16) (by omega)]
    rw [CR_at hk]
    rw [fu (b := y + 16) (by omega), fu (b := y + 16) (by omega), CR_b (c := y + 16) (by omega), CR_b (c := y + 16) (by omega), CR_b (c := y + 16) (by omega), CR_b (c := y + 16) (by omega), CR_b (c := y + 16) (by omega), CR_b (c := y + 16) (by omega), CR_b (c := y + 16) (by omega), CR_b (c := y + 16) (by omega), CR_b (c := y + 16) (by omega), CR_b (c := y + 16) (by omega), CR_b (c := y + 16) (by omega), CR_b (c := y + 16) (by omega), CR_b (c := y + 16) (by omega), CR_b (c := y + 16) (by omega), fu (b := y + 16) (by omega), fu (b := y + 16) (by omega), fu (b := y + 16) (by omega)]
  · unfold beA
    rw [CR_at hk]
    rw [fu (b := y + 18) (by omega), fu (b := y + 18) (by omega), CR_b (c := y + 18) (by omega), fu (b := y + 18) (by omega), fu (b := y + 18) (by omega), CR_b (c := y + 18) (by omega), CR_b (c := y + 18) (by omega), CR_b (c := y + 18) (by omega), CR_b (c := y + 18) (by omega), CR_b (c := y + 18) (by omega), CR_b (c := y + 18) (by omega), CR_b (c := y + 18) (by omega), CR_b (c := y + 18) (by omega), CR_b (c := y + 18) (by omega), CR_b (c := y + 18) (by omega), CR_b (c := y + 18) (by omega), CR_b (c := y + 18) (by omega), CR_b (c := y + 18) (by omega), CR_b (c := y + 18) (by omega), fu (b := y + 18) (by omega), fu (b := y + 18) (by omega), fu (b := y + 18) (by omega)]
  · unfold beA
    rw [CR_b (c := x) (by omega), fu (b := x) (by omega), fu (b := x) (by omega), CR_b (c := x) (by omega), fu (b := x) (by omega), fu (b := x) (by omega), CR_b (c := x) (by omega), CR_b (c := x) (by omega), CR_b (c := x) (by omega), CR_b (c := x) (by omega), CR_b (c := x) (by omega), CR_b (c := x) (by omega), CR_b (c := x) (by omega), CR_b (c := x) (by omega), CR_b (c := x) (by omega), CR_b (c := x) (by omega), CR_b (c := x) (by omega), CR_b (c := x) (by omega), CR_b (c := x) (by omega), CR_b (c := x) (by omega), up_ne (Or.inr (by decide)), up_ne (Or.inr (by decide))]
    exact up_self
  · unfold beA
    rw [CR_b (c := x) (by omega), fu (b := x) (by omega), fu (b := x) (by omega), CR_b (c := x) (by omega), fu (b := x) (by omega), fu (b := x) (by omega), CR_b (c := x) (by omega), CR_b (c := x) (by omega), CR_b (c := x) (by omega), CR_b (c := x) (by omega), CR_b (c := x) (by omega), CR_b (c := x) (by omega), CR_b (c := x) (by omega), CR_b (c := x) (by omega), CR_b (c := x) (by omega), CR_b (c := x) (by omega), CR_b (c := x) (by omega), CR_b (c := x) (by omega), CR_b (c := x) (by omega), CR_b (c := x) (by omega), up_ne (Or.inr (by decide))]
    exact up_self
  · unfold beA
    rw [CR_b (c := x) (by omega), fu (b := x) (by omega), fu (b := x) (by omega), CR_b (c := x) (by omega), fu (b := x) (by omega), fu (b := x) (by omega), CR_b (c := x) (by omega), CR_b (c := x) (by omega), CR_b (c := x) (by omega), CR_b (c := x) (by omega), CR_b (c := x) (by omega), CR_b (c := x) (by omega), CR_b (c := x) (by omega), CR_b (c := x) (by omega), CR_b (c := x) (by omega), CR_b (c := x) (by omega), CR_b (c := x) (by omega), CR_b (c := x) (by omega), CR_b (c := x) (by omega), CR_b (c := x) (by omega)]
    exact up_self
  · unfold beA
    rw [CR_b (c := x + 15) (by omega), fu (b := x + 15) (by omega), fu (b := x + 15) (by omega), CR_b (c := x + 15) (by omega), up_ne (Or.inr (by decide))]
    exact up_self
  · unfold beA
    rw [CR_b (c := x + 15) (by omega), fu (b := x + 15) (by omega), fu (b := x + 15) (by omega), CR_b (c := x + 15) (by omega)]
    exact up_self
  · unfold beA
    rw [CR_b (c := x + 17) (by omega), up_ne (Or.inr (by decide))]
    exact up_self
  · unfold beA
    rw [CR_b (c := x + 17) (by omega)]
    exact up_self
  · unfold beA
    rw [CR_b (c := x + 15) (by omega), fu (b := x + 15) (by omega), fu (b := x + 15) (by omega), CR_b (c := x + 15) (by omega), up_ne (Or.inr (by omega)), up_ne (Or.inr (by omega)), CR_b (c := x + 15) (by omega), CR_b (c := x + 15) (by omega), CR_b (c := x + 15) (by omega), CR_b (c := x + 15) (by omega), CR_b (c := x + 15) (by omega), CR_b (c := x + 15) (by omega), CR_b (c := x + 15) (by omega), CR_b (c := x + 15) (by omega), CR_b (c := x + 15) (by omega), CR_b (c := x + 15) (by omega), CR_b (c := x + 15) (by omega), CR_b (c := x + 15) (by omega), CR_b (c := x + 15) (by omega), CR_b (c := x + 15) (by omega), fu (b := x + 15) (by omega), fu (b := x + 15) (by omega), fu (b := x + 15) (by omega)]
  · unfold beA
    rw [CR_b (c := x + 17) (by omega), up_ne (Or.inr (by omega)), up_ne (Or.inr (by omega)), CR_b (c := x + 17) (by omega), fu (b := x + 17) (by omega), fu (b := x + 17) (by omega), CR_b (c := x + 17) (by omega), CR_b (c := x + 17) (by omega), CR_b (c := x + 17) (by omega), CR_b (c := x + 17) (by omega), CR_b (c := x + 17) (by omega), CR_b (c := x + 17) (by omega), CR_b (c := x + 17) (by omega), CR_b (c := x + 17) (by omega), CR_b (c := x + 17) (by omega), CR_b (c := x + 17) (by omega), CR_b (c := x + 17) (by omega), CR_b (c := x + 17) (by omega), CR_b (c := x + 17) (by omega), CR_b (c := x + 17) (by omega), fu (b := x + 17) (by omega), fu (b := x + 17) (by omega), fu (b := x + 17) (by omega)]
  · unfold beA
    rw [CR_b (c := b) (by omega), fu (b := b) (by omega), fu (b := b) (by omega), CR_b (c := b) (by omega), fu (b := b) (by omega), fu (b := b) (by omega), CR_b (c := b) (by omega), CR_b (c := b) (by omega), CR_b (c := b) (by omega), CR_b (c := b) (by omega), CR_b (c := b) (by omega), CR_b (c := b) (by omega), CR_b (c := b) (by omega), CR_b (c := b) (by omega), CR_b (c := b) (by omega), CR_b (c := b) (by omega), CR_b (c := b) (by omega), CR_b (c := b) (by omega), CR_b (c := b) (by omega), CR_b (c := b) (by omega), fu (b := b) (by omega), fu (b := b) (by omega), fu (b := b) (by omega)]
