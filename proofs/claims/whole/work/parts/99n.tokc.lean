/-! tokens: the class reads -/
def VT (T : Nat → Int32) (N : Nat) : Prop := N ≤ 900 ∧ ∀ k, k < N → (32 ≤ (T k).toInt ∧ (T k).toInt ≤ 126) ∨ T k = 10
def TXc (T : Nat → Int32) (N : Nat) (C : IM) : Prop := C 1 0 = nI N ∧ ∀ k, k < N → C 2 k = T k
theorem TXc_u {T : Nat → Int32} {N a k : Nat} {v : Int32} {C : IM} (h : TXc T N C) (h1 : a ≠ 1 ∨ k ≠ 0) (h2 : a ≠ 2) : TXc T N (up C a k v) := by
  refine ⟨?_, fun j hj => ?_⟩
  · rw [up_ne (by omega)]; exact h.1
  · rw [fu (by omega)]; exact h.2 j hj
theorem skC {T : Nat → Int32} {N n : Nat} (hN : N ≤ 900) : ∀ (d f : Nat) (C : IM) (x : Int32), d ≤ N → d < f → TXc T N C → C 1 4 = nI (N - d) → l_Rdr_skipBlanks_2 n f x C = some (up C 1 4 (nI (N - pSk T N d x)))
  | 0, f + 1, C, x, hd, _, tx, h4 => by
    rw [l_Rdr_skipBlanks_2, tx.1, h4, Nat.sub_zero, if_pos (Int32.le_refl _), pSk, Nat.sub_zero, up_id (by rw [h4, Nat.sub_zero])]
  | d + 1, f + 1, C, x, hd, hf, tx, h4 => by
    have e2 : C 2 (N - (d + 1)) = T (N - (d + 1)) := tx.2 _ (by omega)
    have go : ∀ y : Int32, b_Rdr_skipBlanks_56 n (l_Rdr_skipBlanks_2 n f) y C = some (up C 1 4 (nI (N - pSk T N d y))) := fun y => by
      have := skC (n := n) hN d f (up C 1 4 (nI (N - d))) y (by omega) (by omega) (TXc_u tx (Or.inr (by decide)) (by decide)) up_self
      rw [b_Rdr_skipBlanks_56, lt, h4, nk1, show N - (d + 1) + 1 = N - d by omega, this, up_up]
    rw [l_Rdr_skipBlanks_2, tx.1, h4, if_neg (nk (by omega) (by omega)), chk_i (nki (by omega) (by decide)), nkc (by omega), e2, pSk]
    by_cases c1 : T (N - (d + 1)) = 10
    · rw [if_pos c1, if_pos c1, go]
    rw [if_neg c1, if_neg c1]
    by_cases c2 : T (N - (d + 1)) = 35
    · rw [if_pos c2, if_pos c2, go]
    rw [if_neg c2, if_neg c2]
    by_cases c3 : T (N - (d + 1)) = 32
    · rw [if_pos c3, if_pos c3, go]
    rw [if_neg c3, if_neg c3]
    by_cases c4 : x = 0
    · rw [if_pos c4, if_pos c4, up_id h4]
    · rw [if_neg c4, if_neg c4, go]
theorem isL_f {x : Int32} {C : IM} : f_Rdr_isLetter x C = some (if 97 ≤ x ∧ x ≤ 122 then 1 else 0) := by
  unfold f_Rdr_isLetter
  congr 1
  by_cases c1 : x < 97
  · rw [if_pos c1, if_neg (fun z => ile.mpr c1 z.1)]
  · rw [if_neg c1]
    by_cases c2 : (122 : Int32) < x
    · rw [if_pos c2, if_neg (fun z => ile.mpr c2 z.2)]
    · rw [if_neg c2, if_pos ⟨Decidable.of_not_not (fun z => c1 (ile.mp z)), Decidable.of_not_not (fun z => c2 (ile.mp z))⟩]
theorem isD_f {x : Int32} {C : IM} : f_Rdr_isDigit x C = some (if 48 ≤ x ∧ x ≤ 57 then 1 else 0) := by
  unfold f_Rdr_isDigit
  congr 1
  by_cases c1 : x < 48
  · rw [if_pos c1, if_neg (fun z => ile.mpr c1 z.1)]
  · rw [if_neg c1]
    by_cases c2 : (57 : Int32) < x
    · rw [if_pos c2, if_neg (fun z => ile.mpr c2 z.2)]
    · rw [if_neg c2, if_pos ⟨Decidable.of_not_not (fun z => c1 (ile.mp z)), Decidable.of_not_not (fun z => c2 (ile.mp z))⟩]
/-- the class's packing of a word's first nine letters -/
def pkN (acc i : Nat) : List Nat → Nat
  | [] => acc
  | c :: cs => pkN (if i ≤ 8 then acc * 32 + c else acc) (i + 1) cs
theorem pkN_e : ∀ (cs : List Nat) (i : Nat) (rv : List Nat), pkN (leN rv) i cs = leN ((cs.take (9 - i)).reverse ++ rv)
  | [], i, rv => by simp [pkN]
  | c :: cs, i, rv => by
    rw [pkN]
    by_cases h : i ≤ 8
    · rw [if_pos h, show leN rv * 32 + c = leN (c :: rv) by simp only [leN]; omega, pkN_e cs (i + 1) (c :: rv), show 9 - i = (9 - (i + 1)) + 1 by omega, List.take_succ_cons, List.reverse_cons, List.append_assoc]
      rfl
    · rw [if_neg h, pkN_e cs (i + 1) rv, show 9 - i = 0 by omega, show 9 - (i + 1) = 0 by omega, List.take_zero, List.take_zero]
theorem i64m {x : Int64} {v : Int32} {a c : Nat} (hx : x.toInt = a) (hv : v.toInt = c) (ha : a < 2 ^ 45) (hc : c < 32) : (x * 32 + v.toInt64).toInt = ((a * 32 + c : Nat) : Int) := by
  simp only [Int64.toInt_add, Int64.toInt_mul, Int32.toInt_toInt64, hx, hv, Int64.reduceToInt, Int.bmod_def]
  simp only [Nat.reducePow] at ha ⊢
  split <;> split <;> omega
theorem rwC {T : Nat → Int32} {N n D : Nat} {J : JM} (hN : N ≤ 900) (hD : D ≤ N) : ∀ (d f i acc : Nat) (x : Int64) (C : IM), d + i = D → d < f → TXc T N C → C 1 4 = nI (N - d) → x.toInt = acc → acc < 2 ^ (5 * min i 9) → ∃ y : Int64, y.toInt = pkN acc i (pLw T N d) ∧ l_Rdr_readWord_7 n J f (nI (N - D)) x C = b_Rdr_readWord_77 n J y (up C 1 4 (nI (N - pLr T N d)))
  | 0, f + 1, i, acc, x, C, hd, _, tx, h4, hx, _ => by
    refine ⟨x, hx, ?_⟩
    rw [l_Rdr_readWord_7, tx.1, h4, Nat.sub_zero, if_pos (Int32.le_refl _), pLr, Nat.sub_zero, up_id (by rw [h4, Nat.sub_zero])]
  | d + 1, f + 1, i, acc, x, C, hd, hf, tx, h4, hx, hacc => by
    have e2 : C 2 (N - (d + 1)) = T (N - (d + 1)) := tx.2 _ (by omega)
    have st : l_Rdr_readWord_7 n J (f + 1) (nI (N - D)) x C = if (if 97 ≤ T (N - (d + 1)) ∧ T (N - (d + 1)) ≤ 122 then 1 else 0 : Int32) = 0 then (b_Rdr_readWord_77 n J x C) else (if (8 : Int32) < nI i then (b_Rdr_readWord_64 n J (l_Rdr_readWord_7 n J f) (nI (N - D)) x C) else (Option.bind (f_Rdr_letterNumber (T (N - (d + 1))) C) fun v7 => b_Rdr_readWord_64 n J (l_Rdr_readWord_7 n J f) (nI (N - D)) (x * 32 + v7.toInt64) C)) := by
      have es : nI (N - (d + 1)) - nI (N - D) = nI i := by rw [nsb (by omega)]; congr 1; omega
      rw [l_Rdr_readWord_7, tx.1, h4, if_neg (nk (by omega) (by omega)), chk_i (nki (by omega) (by decide)), nkc (by omega), e2, isL_f, Option.bind_some, es]
    have b64 : ∀ z : Int64, b_Rdr_readWord_64 n J (l_Rdr_readWord_7 n J f) (nI (N - D)) z C = l_Rdr_readWord_7 n J f (nI (N - D)) z (up C 1 4 (nI (N - d))) := fun z => by
      rw [b_Rdr_readWord_64, lt, h4, nk1, show N - (d + 1) + 1 = N - d by omega]
    rw [st, pLw, pLr]
    by_cases c1 : 97 ≤ T (N - (d + 1)) ∧ T (N - (d + 1)) ≤ 122
    · rw [if_pos c1, if_pos c1, if_pos c1, if_neg (by decide)]
      have lb : 97 ≤ (T (N - (d + 1))).toInt ∧ (T (N - (d + 1))).toInt ≤ 122 := by
        have a := c1.1
        have b := c1.2
        rw [tl] at a b
        simp only [Int32.reduceToInt] at a b
        exact ⟨a, b⟩
      have n0 : ¬ T (N - (d + 1)) < 0 := by rw [ti]; simp only [Int32.reduceToInt]; omega
      have nn := nat_of n0
      rw [pkN]
      by_cases c8 : i ≤ 8
      · have i8 : ¬ (8 : Int32) < nI i := fun z => by have := (nlt (a := 8) (by decide) (by omega)).mp z; omega
        have mi : min i 9 = i := Nat.min_eq_left (by omega)
        have mi' : min (i + 1) 9 = i + 1 := Nat.min_eq_left (by omega)
        have pw : 2 ^ (5 * (i + 1)) = 2 ^ (5 * i) * 32 := by rw [Nat.mul_add, Nat.pow_add]
        have p40 : 2 ^ (5 * i) ≤ 2 ^ 40 := Nat.pow_le_pow_right (by decide) (by omega)
        rw [mi] at hacc
        rw [if_neg i8, if_pos c8]
        have lv : f_Rdr_letterNumber (T (N - (d + 1))) C = some (T (N - (d + 1)) - 97 + 1) := rfl
        rw [lv, Option.bind_some, b64]
        have hv : (T (N - (d + 1)) - 97 + 1).toInt = (((T (N - (d + 1))).toNatClampNeg - 96 : Nat) : Int) := by
          have e97 : (T (N - (d + 1)) - 97).toInt = (T (N - (d + 1))).toInt - 97 := isub (by simp only [Int32.reduceToInt]; omega) (by simp only [Int32.reduceToInt]; omega)
          have : (T (N - (d + 1)) - 97 + 1).toInt = (T (N - (d + 1)) - 97).toInt + 1 := iadd (by rw [e97]; simp only [Int32.reduceToInt]; omega) (by rw [e97]; simp only [Int32.reduceToInt]; omega)
          rw [this, e97]
          omega
        have hc : (T (N - (d + 1))).toNatClampNeg - 96 < 32 := by omega
        have nx := i64m hx hv (by simp only [Nat.reducePow] at p40 ⊢; omega) hc
        obtain ⟨y, g1, g2⟩ := rwC (n := n) (J := J) hN hD d f (i + 1) (acc * 32 + ((T (N - (d + 1))).toNatClampNeg - 96)) _ (up C 1 4 (nI (N - d))) (by omega) (by omega) (TXc_u tx (Or.inr (by decide)) (by decide)) up_self nx (by rw [mi', pw]; omega)
        refine ⟨y, g1, ?_⟩
        rw [g2, up_up]
      · have i8 : (8 : Int32) < nI i := (nlt (a := 8) (by decide) (by omega)).mpr (by omega)
        rw [if_pos i8, if_neg c8, b64]
        obtain ⟨y, g1, g2⟩ := rwC (n := n) (J := J) hN hD d f (i + 1) acc x (up C 1 4 (nI (N - d))) (by omega) (by omega) (TXc_u tx (Or.inr (by decide)) (by decide)) up_self hx (by
          rw [Nat.min_eq_right (show 9 ≤ i by omega)] at hacc
          rw [Nat.min_eq_right (show 9 ≤ i + 1 by omega)]
          exact hacc)
        refine ⟨y, g1, ?_⟩
        rw [g2, up_up]
    · rw [if_neg c1, if_neg c1, if_neg c1, if_pos rfl]
      refine ⟨x, hx, ?_⟩
      rw [up_id h4]
theorem lgc {x y : Int64} : lg_cmp x y = 0 ↔ x = y := by
  unfold lg_cmp
  by_cases h1 : x > y
  · rw [if_pos h1]
    exact ⟨fun z => absurd z (by decide), fun z => by rw [z] at h1; exact absurd h1 Int64.lt_irrefl⟩
  · rw [if_neg h1]
    by_cases h2 : x = y
    · rw [if_pos h2]; exact ⟨fun _ => h2, fun _ => rfl⟩
    · rw [if_neg h2]; exact ⟨fun z => absurd z (by decide), fun z => absurd z h2⟩
theorem lw_ok {T : Nat → Int32} {N : Nat} : ∀ d, ∀ c ∈ pLw T N d, 1 ≤ c ∧ c ≤ 26
  | 0 => by simp [pLw]
  | d + 1 => by
    rw [pLw]
    by_cases c1 : 97 ≤ T (N - (d + 1)) ∧ T (N - (d + 1)) ≤ 122
    · rw [if_pos c1]
      intro c hc
      rcases List.mem_cons.mp hc with rfl | hc
      · have a := c1.1
        have b := c1.2
        rw [tl] at a b
        simp only [Int32.reduceToInt] at a b
        have n0 : ¬ T (N - (d + 1)) < 0 := by rw [ti]; simp only [Int32.reduceToInt]; omega
        have nn := nat_of n0
        omega
      · exact lw_ok d c hc
    · rw [if_neg c1]
      simp
theorem wl_t {k : Nat} {ls : List Nat} (hk : k < 50) (h : ∀ c ∈ ls, 1 ≤ c ∧ c ≤ 26) : (leN (wLs.getD k []).reverse = leN (ls.take 9).reverse) ↔ wLs.getD k [] = ls := by
  obtain ⟨a, -, b⟩ := wl_ok k hk
  refine ⟨fun z => ?_, fun z => ?_⟩
  · have := leN_i (fun c hc => by have := b c (List.mem_reverse.mp hc); omega) (fun c hc => by have := h c (List.mem_of_mem_take (List.mem_reverse.mp hc)); omega) z
    have e : wLs.getD k [] = ls.take 9 := List.reverse_inj.mp this
    have hl : (ls.take 9).length ≤ 8 := by rw [← e]; exact a
    rw [List.length_take] at hl
    rw [e, List.take_of_length_le (by omega)]
  · rw [← z, List.take_of_length_le (by omega)]
theorem swC {n : Nat} {J : JM} {ls : List Nat} {y : Int64} {C : IM} (hJ : JOK J) (h : ∀ c ∈ ls, 1 ≤ c ∧ c ≤ 26) (hy : y.toInt = leN (ls.take 9).reverse) : ∀ (d f k : Nat), k + d = 50 → d < f → (∀ j, j < k → wLs.getD j [] ≠ ls) → l_Rdr_readWord_80 n J f y (nI k) C = some (nI (wix ls), C)
  | 0, f + 1, k, hd, _, hk => by
    have e : k = 50 := by omega
    subst e
    rw [l_Rdr_readWord_80, if_pos (by decide)]
    rcases wix_s (ls := ls) with ⟨z, -⟩ | ⟨z1, z2⟩
    · rw [z]; rfl
    · exact absurd z2 (hk _ z1)
  | d + 1, f + 1, k, hd, hf, hk => by
    have eq : J 6 k = y ↔ wLs.getD k [] = ls := by
      rw [hJ.1 k (by omega), ← wl_t (by omega) h, ← Int64.toInt_inj, hy, ← wl_be k (by omega)]
      omega
    rw [l_Rdr_readWord_80, if_neg (show ¬ (50 : Int32) ≤ nI k from nk (N := 50) (by omega) (by decide)), chk_i (nki (by omega) (by decide)), nkc (by omega)]
    by_cases z : wLs.getD k [] = ls
    · rw [if_pos (lgc.mpr (eq.mpr z)), ← z, wix_k (by omega)]
    · rw [if_neg (fun w => z (eq.mp (lgc.mp w))), nk1]
      exact swC hJ h hy d f (k + 1) (by omega) (by omega) (fun j hj => by
        by_cases e : j = k
        · rw [e]; exact z
        · exact hk j (by omega))
theorem wrdC {T : Nat → Int32} {N n d : Nat} {J : JM} {C : IM} (hJ : JOK J) (hn : 1000 ≤ n) (hN : N ≤ 900) (hd : d ≤ N) (tx : TXc T N C) (h4 : C 1 4 = nI (N - d)) : f_Rdr_readWord n J C = some (nI (wix (pLw T N d)), up C 1 4 (nI (N - pLr T N d))) := by
  obtain ⟨y, g1, g2⟩ := rwC (T := T) (n := n) (J := J) hN hd d n 0 0 0 C (by omega) (by omega) tx h4 rfl (by decide)
  have g1' : y.toInt = leN ((pLw T N d).take 9).reverse := by
    have := pkN_e (pLw T N d) 0 []
    rw [List.append_nil] at this
    rw [g1]
    exact congrArg (fun z : Nat => (z : Int)) this
  rw [f_Rdr_readWord, h4]
  show l_Rdr_readWord_7 n J n (nI (N - d)) 0 C = _
  rw [g2, b_Rdr_readWord_77]
  exact swC hJ (lw_ok d) g1' 50 n 0 (by omega) (by omega) (fun j hj => by omega)
