/-! differ: the cases, one after another -/
/-- what is left of a case's number after d names, from the last one on; the value of the d-th -/
def Lq (bits : Int32) (b num : Nat) : Nat → Nat
  | 0 => num
  | d + 1 => if (bits >>> (nI (14 - d) &&& 31)) &&& 1 = 0 then Lq bits b num d else Lq bits b num d / b
def cdg (bits : Int32) (b num d : Nat) : Nat := if (bits >>> (nI (14 - d) &&& 31)) &&& 1 = 0 then 0 else Lq bits b num d % b
theorem Lq_le {bits : Int32} {b num : Nat} : ∀ d, Lq bits b num d ≤ num
  | 0 => Nat.le_refl _
  | d + 1 => by
    have h := Lq_le (bits := bits) (b := b) (num := num) d
    rw [Lq]
    split
    · exact h
    · exact Nat.le_trans (Nat.div_le_self _ _) h
theorem dvb {L b : Nat} (hL : L ≤ 10000) (hb : 1 ≤ b) (hb2 : b ≤ 8) : nI L / nI b = nI (L / b) ∧ nI L - nI L / nI b * nI b = nI (L % b) := by
  have t1 : (nI L).toInt = L := nI_toInt (by omega)
  have t2 : (nI b).toInt = b := nI_toInt (by omega)
  have ne : nI b ≠ -1 := fun z => by
    have := congrArg Int32.toInt z
    rw [t2] at this
    simp only [Int32.reduceToInt] at this
    omega
  have e : nI L / nI b = nI (L / b) := by
    apply Int32.toInt_inj.mp
    have hle : L / b ≤ L := Nat.div_le_self _ _
    rw [(Jvm.RoadKit.c_idiv (nI L) (nI b) b t2 ne).1 (by omega), t1, nI_toInt (by omega)]
    exact (Int.natCast_ediv L b).symm
  refine ⟨e, ?_⟩
  rw [e, nml, nsb (by rw [Nat.mul_comm]; exact Nat.mul_div_le L b)]
  congr 1
  rw [Nat.mul_comm]
  have := Nat.div_add_mod L b
  omega
/-- the reference's setCase -/
theorem sc_l {n b num : Nat} {bits : Int32} (hb : 1 ≤ b) (hb2 : b ≤ 8) (hb1 : 2 ≤ b) (hn : num ≤ 10000) : ∀ (e d f : Nat) (R : IM), d + e = 15 → e < f → ∃ R', l_Mod_setCase_7 n f bits (nI (b - 1)) (nI (Lq bits b num d)) (nI e + (-1)) R = some R' ∧ (∀ k, k ≠ A_caseValue → R' k = R k) ∧ (∀ j, d ≤ j → j < 15 → R' A_caseValue (14 - j) = nI (cdg bits b num j)) ∧ ∀ j, j < d → R' A_caseValue (14 - j) = R A_caseValue (14 - j)
  | 0, d, f + 1, R, hd, _ => ⟨R, by rw [l_Mod_setCase_7, if_pos (by decide)], fun _ _ => rfl, fun j h1 h2 => by omega, fun _ _ => rfl⟩
  | e + 1, d, f + 1, R, hd, hf => by
    have ed : e = 14 - d := by omega
    have eb : nI (b - 1) + 1 = nI b := by rw [nk1]; congr 1; omega
    have ne : ¬ nI b = 0 := fun z => by have := nij (b := 0) (by omega) (by decide) z; omega
    have hL := Lq_le (bits := bits) (b := b) (num := num) d
    obtain ⟨dv, dm⟩ := dvb (L := Lq bits b num d) (b := b) (by omega) hb hb2
    have st : l_Mod_setCase_7 n (f + 1) bits (nI (b - 1)) (nI (Lq bits b num d)) (nI (e + 1) + (-1)) R = l_Mod_setCase_7 n f bits (nI (b - 1)) (nI (Lq bits b num (d + 1))) (nI e + (-1)) (up R A_caseValue e (nI (cdg bits b num d))) := by
      rw [l_Mod_setCase_7, mi1 (by omega), if_neg (show ¬ nI e < 0 from fun z => by have := (nlt (b := 0) (by omega) (by decide)).mp z; omega)]
      unfold cdg
      rw [Lq, ← ed]
      by_cases z : (bits >>> (nI e &&& 31)) &&& 1 = 0
      · have z1 : ¬ (bits >>> (nI e &&& 31)) &&& 1 = 1 := fun y => and1.mpr y z
        rw [if_neg z1, if_pos rfl, if_pos z, if_pos z, b_Mod_setCase_50, chk_i (nki (by omega) (by decide)), lt, if_pos rfl, b_Mod_setCase_67, nkc (by omega)]
        rfl
      · have z1 : (bits >>> (nI e &&& 31)) &&& 1 = 1 := and1.mp z
        rw [if_pos z1, if_neg (by decide), if_neg z, if_neg z, eb, chk_i ne, b_Mod_setCase_50, chk_i (nki (by omega) (by decide)), lt, if_neg (by decide), eb, chk_i ne, b_Mod_setCase_67, nkc (by omega), dm, dv]
    obtain ⟨R', g1, g2, g3, g4⟩ := sc_l (n := n) hb hb2 hb1 hn e (d + 1) f (up R A_caseValue e (nI (cdg bits b num d))) (by omega) (by omega)
    refine ⟨R', st.trans g1, fun k hk => by rw [g2 k hk, fu hk], fun j h1 h2 => ?_, fun j hj => ?_⟩
    · by_cases z : j = d
      · rw [z, g4 d (by omega), ← ed, up_self]
      · exact g3 j (by omega) h2
    · rw [g4 j (by omega), up_ne (Or.inr (by omega))]
theorem Lq_eq {bits : Int32} {b x y d : Nat} (h : Lq bits b x d = Lq bits b y d) : ∀ e, Lq bits b x (d + e) = Lq bits b y (d + e)
  | 0 => h
  | e + 1 => by
    rw [show d + (e + 1) = (d + e) + 1 from rfl, Lq, Lq, Lq_eq h e]
/-- the class's goToNextCase -/
theorem gn_l {n b num : Nat} {bits : Int32} (hb1 : 2 ≤ b) (hb2 : b ≤ 8) (hn : num ≤ 5000) : ∀ (e d f : Nat) (C : IM), d + e = 15 → e < f → C 40 4 = bits → C 40 5 = nI (b - 1) → (∀ j, j < d → C 41 (14 - j) = nI (cdg bits b (num + 1) j)) → (∀ j, d ≤ j → j < 15 → C 41 (14 - j) = nI (cdg bits b num j)) → Lq bits b (num + 1) d = Lq bits b num d + 1 → ∃ C', l_Cmp_goToNextCase_3 n f (nI e + (-1)) C = some C' ∧ (∀ k, k ≠ 41 → C' k = C k) ∧ ∀ j, j < 15 → C' 41 (14 - j) = nI (cdg bits b (num + 1) j)
  | 0, d, f + 1, C, hd, _, _, _, h1, _, _ => ⟨C, by rw [l_Cmp_goToNextCase_3, if_pos (by decide)], fun _ _ => rfl, fun j hj => h1 j (by omega)⟩
  | e + 1, d, f + 1, C, hd, hf, c4, c5, h1, h2, hL => by
    have ed : e = 14 - d := by omega
    have e0 : ¬ nI e < 0 := fun z => by have := (nlt (b := 0) (by omega) (by decide)).mp z; omega
    have hl := Lq_le (bits := bits) (b := b) (num := num) d
    by_cases z : (bits >>> (nI e &&& 31)) &&& 1 = 0
    · have zd : (bits >>> (nI (14 - d) &&& 31)) &&& 1 = 0 := by rw [← ed]; exact z
      obtain ⟨C', g1, g2, g3⟩ := gn_l (n := n) (bits := bits) (num := num) hb1 hb2 hn e (d + 1) f C (by omega) (by omega) c4 c5 (fun j hj => by
        by_cases y : j = d
        · rw [y, h2 d (by omega) (by omega)]
          unfold cdg
          rw [if_pos zd, if_pos zd]
        · exact h1 j (by omega)) (fun j a1 a2 => h2 j (by omega) a2) (by rw [Lq, Lq, if_pos zd, if_pos zd]; exact hL)
      refine ⟨C', ?_, g2, g3⟩
      rw [l_Cmp_goToNextCase_3, mi1 (by omega), if_neg e0, c4, if_pos z, b_Cmp_goToNextCase_49]
      exact g1
    · have zd : ¬ (bits >>> (nI (14 - d) &&& 31)) &&& 1 = 0 := by rw [← ed]; exact z
      have ce : C 41 e = nI (Lq bits b num d % b) := by
        rw [ed, h2 d (by omega) (by omega)]
        unfold cdg
        rw [if_neg zd]
      have hm : Lq bits b num d % b < b := Nat.mod_lt _ (by omega)
      by_cases y : Lq bits b num d % b = b - 1
      · have hd1 : (Lq bits b num d + 1) % b = 0 := by
          rw [Nat.add_mod, y, Nat.mod_eq_of_lt (show 1 < b by omega), show b - 1 + 1 = b by omega, Nat.mod_self]
        have hd2 : (Lq bits b num d + 1) / b = Lq bits b num d / b + 1 := by
          have a1 := Nat.div_add_mod (Lq bits b num d) b
          have a2 := Nat.div_add_mod (Lq bits b num d + 1) b
          rw [hd1] at a2
          rw [y] at a1
          have : b * ((Lq bits b num d + 1) / b) = b * (Lq bits b num d / b + 1) := by rw [Nat.mul_add]; omega
          exact Nat.eq_of_mul_eq_mul_left (by omega) this
        obtain ⟨C', g1, g2, g3⟩ := gn_l (n := n) (bits := bits) (num := num) hb1 hb2 hn e (d + 1) f (up C 41 e 0) (by omega) (by omega) (by rw [fu (by decide)]; exact c4) (by rw [fu (by decide)]; exact c5) (fun j hj => by
          by_cases w : j = d
          · rw [w, ← ed, up_self]
            unfold cdg
            rw [if_neg zd, hL, hd1]
            rfl
          · rw [up_ne (Or.inr (by omega))]; exact h1 j (by omega)) (fun j a1 a2 => by rw [up_ne (Or.inr (by omega))]; exact h2 j (by omega) a2) (by rw [Lq, Lq, if_neg zd, if_neg zd, hL, hd2])
        refine ⟨C', ?_, fun k hk => by rw [g2 k hk, fu hk], g3⟩
        rw [l_Cmp_goToNextCase_3, mi1 (by omega), if_neg e0, c4, if_neg z, chk_i (nki (by omega) (by decide)), nkc (by omega), c5, ce, if_pos ((nle (by omega) (by omega)).mpr (by omega)), lt, b_Cmp_goToNextCase_49]
        exact g1
      · have hd1 : (Lq bits b num d + 1) % b = Lq bits b num d % b + 1 := by
          rw [Nat.add_mod, Nat.mod_eq_of_lt (show 1 < b by omega), Nat.mod_eq_of_lt (by omega)]
        have hd2 : (Lq bits b num d + 1) / b = Lq bits b num d / b := by
          have a1 := Nat.div_add_mod (Lq bits b num d) b
          have a2 := Nat.div_add_mod (Lq bits b num d + 1) b
          rw [hd1] at a2
          have : b * ((Lq bits b num d + 1) / b) = b * (Lq bits b num d / b) := by omega
          exact Nat.eq_of_mul_eq_mul_left (by omega) this
        have same : Lq bits b (num + 1) (d + 1) = Lq bits b num (d + 1) := by
          rw [Lq, Lq, if_neg zd, if_neg zd, hL, hd2]
        refine ⟨up C 41 e (nI (Lq bits b num d % b + 1)), ?_, fun k hk => fu hk, fun j hj => ?_⟩
        · rw [l_Cmp_goToNextCase_3, mi1 (by omega), if_neg e0, c4, if_neg z, chk_i (nki (by omega) (by decide)), nkc (by omega), c5, ce, if_neg (fun w => by have := (nle (by omega) (by omega)).mp w; omega), lt, nk1]
        · by_cases w : j = d
          · rw [w, ← ed, up_self]
            unfold cdg
            rw [if_neg zd, hL, hd1]
          · rw [up_ne (Or.inr (by omega))]
            by_cases w2 : j < d
            · exact h1 j w2
            · rw [h2 j (by omega) hj]
              have sj := Lq_eq same (j - (d + 1))
              rw [show d + 1 + (j - (d + 1)) = j by omega] at sj
              unfold cdg
              rw [sj]
