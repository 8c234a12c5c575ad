/-! the answer that is kept for a question: both searches -/
def qf (R : IM) (i : Nat) : Nat := if R MO 58 = 8 then ((R MO 59).toNatClampNeg + i) % 8 else i
/-- how many answers are kept, as a number -/
theorem q8n {tl : Int32 → Nat → Prop} {C R : IM} {m : Nat} (h : Q8 tl C m R) : ∃ cz pz : Nat, cz ≤ 8 ∧ pz < 8 ∧ R MO 58 = nI cz ∧ R MO 59 = nI pz ∧ (cz < 8 → pz = cz) ∧ C (m + 15) 0 = nI cz ∧ C (m + 15) 1 = nI (if cz = 8 then pz else 0) ∧ ∀ i, qf R i = if cz = 8 then (pz + i) % 8 else i := by
  obtain ⟨a0, a1, a2, a3, a4, a5, a6, -⟩ := h
  have n0 : ¬ R MO 58 < 0 := by rw [ti]; simp only [Int32.reduceToInt]; omega
  have p0 : ¬ R MO 59 < 0 := by rw [ti]; simp only [Int32.reduceToInt]; omega
  have e := nof n0
  have e2 := nat_of n0
  have g := nof p0
  have g2 := nat_of p0
  obtain ⟨cz, hc⟩ : ∃ z, z = (R MO 58).toNatClampNeg := ⟨_, rfl⟩
  obtain ⟨pz, hp⟩ : ∃ z, z = (R MO 59).toNatClampNeg := ⟨_, rfl⟩
  rw [← hc] at e e2
  rw [← hp] at g g2
  have c8 : R MO 58 = 8 ↔ cz = 8 := by
    rw [e]
    exact ⟨fun z => nij (b := 8) (by omega) (by decide) z, fun z => by rw [z]; rfl⟩
  refine ⟨cz, pz, by omega, by omega, e, g, fun z => ?_, a0.trans e, ?_, fun i => ?_⟩
  · have := a6 (fun y => by rw [c8] at y; omega)
    rw [e, g] at this
    exact nij (by omega) (by omega) this
  · rw [a5]
    by_cases z : cz = 8
    · rw [if_pos (c8.mpr z), if_pos z, g]
    · rw [if_neg (fun y => z (c8.mp y)), if_neg z]
      rfl
  · unfold qf
    rw [← hp]
    by_cases z : cz = 8
    · rw [if_pos (c8.mpr z), if_pos z]
    · rw [if_neg (fun y => z (c8.mp y)), if_neg z]
theorem stQ {C R : IM} {m cz pz i : Nat} (hc : QC C m) (h1 : cz ≤ 8) (h2 : pz < 8) (h3 : C (m + 15) 1 = nI (if cz = 8 then pz else 0)) (hq : ∀ i, qf R i = if cz = 8 then (pz + i) % 8 else i) (hi : i < cz) : f_Rng_startOf (m + 15) (nI i) C = some (nI (25 * qf R i)) ∧ qf R i < cz := by
  obtain ⟨c2, c3, -, -⟩ := hc
  rw [f_Rng_startOf, c2, c3, h3, hq]
  by_cases z : cz = 8
  · rw [if_pos z, if_pos z]
    exact ⟨congrArg some (sta8 pz h2 i (by omega)), by omega⟩
  · rw [if_neg z, if_neg z]
    exact ⟨congrArg some (sta0 i (by omega)), hi⟩
theorem qf_s {R : IM} {cz pz Q : Nat} (h2 : pz < 8) (hq : ∀ i, qf R i = if cz = 8 then (pz + i) % 8 else i) (hQ : Q < cz) : ∃ i, i < cz ∧ qf R i = Q := by
  by_cases z : cz = 8
  · refine ⟨(Q + 8 - pz) % 8, by omega, ?_⟩
    rw [hq, if_pos z]
    omega
  · refine ⟨Q, hQ, ?_⟩
    rw [hq, if_neg z]
/-- a row of the class's cache is that of the record -/
def LkC (C : IM) (m Q : Nat) : Prop := C (m + 16) (25 * Q) = C 37 0 ∧ ∀ j, 10 ≤ j → j < 25 → C (m + 16) (25 * Q + j) = C 37 j
theorem il_l {C : IM} {m n Q : Nat} (hm : isMch m) (hc : QC C m) (hQ : Q < 8) : ∀ (d f k : Nat), k + d = 25 → d < f → ((∀ j, k ≤ j → j < 25 → C (m + 16) (25 * Q + j) = C 37 j) → l_Rng_isLike_35 n (m + 15) 37 C f (nI (25 * Q)) (nI k) = some 1) ∧ ((¬ ∀ j, k ≤ j → j < 25 → C (m + 16) (25 * Q + j) = C 37 j) → l_Rng_isLike_35 n (m + 15) 37 C f (nI (25 * Q)) (nI k) = some 0)
  | 0, f + 1, k, hd, _ => by
    have hk : k = 25 := by omega
    subst hk
    refine ⟨fun _ => ?_, fun z => absurd (fun j h1 h2 => by omega) z⟩
    rw [l_Rng_isLike_35, hc.2.1, if_pos (by decide)]
  | d + 1, f + 1, k, hd, hf => by
    have l1 : lenA (m + 15 + 1) = 200 := ln_16 hm
    have l2 : lenA 37 = 25 := rfl
    have st : l_Rng_isLike_35 n (m + 15) 37 C (f + 1) (nI (25 * Q)) (nI k) = if C (m + 16) (25 * Q + k) = C 37 k then l_Rng_isLike_35 n (m + 15) 37 C f (nI (25 * Q)) (nI (k + 1)) else some 0 := by
      rw [l_Rng_isLike_35, hc.2.1, if_neg (show ¬ (25 : Int32) ≤ nI k from nk (N := 25) (by omega) (by decide)), nad, l1, l2, chk_i (nki (by omega) (by decide)), chk_i (nki (by omega) (by decide)), nkc (by omega), nkc (by omega), nk1]
    obtain ⟨i1, i0⟩ := il_l (n := n) hm hc hQ d f (k + 1) (by omega) (by omega)
    rw [st]
    by_cases q : C (m + 16) (25 * Q + k) = C 37 k
    · rw [if_pos q]
      refine ⟨fun h => i1 (fun j h1 h2 => h j (by omega) h2), fun h => i0 (fun z => h (fun j h1 h2 => ?_))⟩
      by_cases e : j = k
      · rw [e]; exact q
      · exact z j (by omega) h2
    · rw [if_neg q]
      exact ⟨fun h => absurd (h k (by omega) (by omega)) q, fun _ => rfl⟩
theorem il {C : IM} {m n Q : Nat} (hn : 1000 ≤ n) (hm : isMch m) (hc : QC C m) (hQ : Q < 8) : (LkC C m Q → f_Rng_isLike n (m + 15) (nI (25 * Q)) 37 10 C = some 1) ∧ (¬ LkC C m Q → f_Rng_isLike n (m + 15) (nI (25 * Q)) 37 10 C = some 0) := by
  have l1 : lenA (m + 15 + 1) = 200 := ln_16 hm
  have l2 : lenA 37 = 25 := rfl
  have st : f_Rng_isLike n (m + 15) (nI (25 * Q)) 37 10 C = if C (m + 16) (25 * Q) = C 37 0 then l_Rng_isLike_35 n (m + 15) 37 C n (nI (25 * Q)) (nI 10) else some 0 := by
    rw [f_Rng_isLike, hc.2.1, l2, if_neg (by decide), if_neg (by decide), l1, chk_i (nki (by omega) (by decide)), chk_i (by decide), nkc (by omega), b_Rng_isLike_26]
    rfl
  obtain ⟨i1, i0⟩ := il_l (n := n) hm hc hQ 15 n 10 (by omega) (by omega)
  rw [st]
  by_cases q : C (m + 16) (25 * Q) = C 37 0
  · rw [if_pos q]
    exact ⟨fun h => i1 h.2, fun h => i0 (fun z => h ⟨q, z⟩)⟩
  · rw [if_neg q]
    exact ⟨fun h => absurd h.1 q, fun _ => rfl⟩
theorem rk_l {C R : IM} {m n cz pz : Nat} (hn : 1000 ≤ n) (hm : isMch m) (hc : QC C m) (h1 : cz ≤ 8) (h2 : pz < 8) (h0 : C (m + 15) 0 = nI cz) (h3 : C (m + 15) 1 = nI (if cz = 8 then pz else 0)) (hq : ∀ i, qf R i = if cz = 8 then (pz + i) % 8 else i) : ∀ (d f k : Nat), k + d = cz → d < f → ((∃ i, k ≤ i ∧ i < cz ∧ LkC C m (qf R i)) → ∃ i, k ≤ i ∧ i < cz ∧ LkC C m (qf R i) ∧ l_Rng_rowLike_2 n (m + 15) 37 C f 10 (nI k) = some (nI i)) ∧ ((¬ ∃ i, k ≤ i ∧ i < cz ∧ LkC C m (qf R i)) → l_Rng_rowLike_2 n (m + 15) 37 C f 10 (nI k) = some (-1))
  | 0, f + 1, k, hd, _ => by
    have hk : k = cz := by omega
    subst hk
    refine ⟨fun ⟨i, a, b, _⟩ => by omega, fun _ => ?_⟩
    rw [l_Rng_rowLike_2, h0, if_pos (Int32.le_refl _)]
  | d + 1, f + 1, k, hd, hf => by
    obtain ⟨s1, s2⟩ := stQ (R := R) hc h1 h2 h3 hq (show k < cz by omega)
    have l1 : lenA (m + 15 + 1) = 200 := ln_16 hm
    obtain ⟨t1, t0⟩ := il (n := n) (Q := qf R k) hn hm hc (by omega)
    have e25 : nI (25 * qf R k) + 25 = nI (25 * qf R k + 25) := nad (b := 25)
    have st : l_Rng_rowLike_2 n (m + 15) 37 C (f + 1) 10 (nI k) = Option.bind (f_Rng_isLike n (m + 15) (nI (25 * qf R k)) 37 10 C) fun v6 => if v6 = 0 then l_Rng_rowLike_2 n (m + 15) 37 C f 10 (nI (k + 1)) else some (nI k) := by
      rw [l_Rng_rowLike_2, h0, if_neg (nk (by omega) (by omega)), s1, Option.bind_some, if_neg (show ¬ nI (25 * qf R k) < 0 from fun z => by have := (nlt (b := 0) (by omega) (by decide)).mp z; omega), hc.2.1, l1, e25, if_neg (show ¬ Int32.ofNat 200 < nI (25 * qf R k + 25) from fun z => by have := (nlt (a := 200) (by decide) (by omega)).mp z; omega)]
      simp only [b_Rng_rowLike_50, nk1]
    obtain ⟨i1, i0⟩ := rk_l (n := n) hn hm hc h1 h2 h0 h3 hq d f (k + 1) (by omega) (by omega)
    rw [st]
    by_cases q : LkC C m (qf R k)
    · rw [t1 q, Option.bind_some, if_neg (by decide)]
      exact ⟨fun _ => ⟨k, by omega, by omega, q, rfl⟩, fun h => absurd ⟨k, by omega, by omega, q⟩ h⟩
    · rw [t0 q, Option.bind_some, if_pos rfl]
      have ne : ∀ i, k ≤ i → LkC C m (qf R i) → k + 1 ≤ i := fun i a b => by
        by_cases e : i = k
        · rw [e] at b; exact absurd b q
        · omega
      refine ⟨fun ⟨i, a, b, c⟩ => ?_, fun h => i0 (fun ⟨i, a, b, c⟩ => h ⟨i, by omega, b, c⟩)⟩
      obtain ⟨i', a', b', c', d'⟩ := i1 ⟨i, ne i a c, b, c⟩
      exact ⟨i', by omega, b', c', d'⟩
/-- a row of the reference's cache is that of the question -/
def LkR (R : IM) (Q : Nat) : Prop := ∀ j, j < 16 → R A_cache (16 * Q + j) = R A_question j
theorem sk_1 {n q : Nat} {H : Int32 → Int32 → Int32 → IM → Option IM} {x1 x2 : Int32} {R : IM} : ∀ (d f k : Nat), k + d = 16 → d < f → l_Mod_ask_138 n H f x1 x2 (nI q) 0 (nI k) R = H x1 x2 (nI (q + 1)) R
  | 0, f + 1, k, hd, _ => by
    have hk : k = 16 := by omega
    subst hk
    rw [l_Mod_ask_138, if_pos (by decide), if_pos rfl, nk1]
  | d + 1, f + 1, k, hd, hf => by
    rw [l_Mod_ask_138, if_neg (show ¬ (16 : Int32) ≤ nI k from nk (N := 16) (by omega) (by decide)), if_pos rfl, b_Mod_ask_176, b_Mod_ask_177, nk1]
    exact sk_1 d f (k + 1) (by omega) (by omega)
theorem sk_2 {n q : Nat} {H : Int32 → Int32 → Int32 → IM → Option IM} {x1 x2 : Int32} {R : IM} (hq : q < 8) : ∀ (d f k : Nat), k + d = 16 → d < f → ((∀ j, k ≤ j → j < 16 → R A_cache (16 * q + j) = R A_question j) → l_Mod_ask_138 n H f x1 x2 (nI q) 1 (nI k) R = H x1 (nI q) (nI (q + 1)) R) ∧ ((¬ ∀ j, k ≤ j → j < 16 → R A_cache (16 * q + j) = R A_question j) → l_Mod_ask_138 n H f x1 x2 (nI q) 1 (nI k) R = H x1 x2 (nI (q + 1)) R)
  | 0, f + 1, k, hd, _ => by
    have hk : k = 16 := by omega
    subst hk
    refine ⟨fun _ => ?_, fun z => absurd (fun j h1 h2 => by omega) z⟩
    rw [l_Mod_ask_138, if_pos (by decide), if_neg (by decide), nk1]
  | d + 1, f + 1, k, hd, hf => by
    have e16 : (16 : Int32) * nI q + nI k = nI (16 * q + k) := by rw [show (16 : Int32) = nI 16 from rfl, nml, nad]
    have st : l_Mod_ask_138 n H (f + 1) x1 x2 (nI q) 1 (nI k) R = l_Mod_ask_138 n H f x1 x2 (nI q) (if R A_cache (16 * q + k) = R A_question k then 1 else 0) (nI (k + 1)) R := by
      rw [l_Mod_ask_138, if_neg (show ¬ (16 : Int32) ≤ nI k from nk (N := 16) (by omega) (by decide)), if_neg (by decide), e16, chk_i (nki (by omega) (by decide)), chk_i (nki (by omega) (by decide)), nkc (by omega), nkc (by omega), nk1]
    rw [st]
    by_cases e : R A_cache (16 * q + k) = R A_question k
    · rw [if_pos e]
      obtain ⟨i1, i0⟩ := sk_2 (n := n) (H := H) (x1 := x1) (x2 := x2) (R := R) hq d f (k + 1) (by omega) (by omega)
      refine ⟨fun h => i1 (fun j h1 h2 => h j (by omega) h2), fun h => i0 (fun z => h (fun j h1 h2 => ?_))⟩
      by_cases y : j = k
      · rw [y]; exact e
      · exact z j (by omega) h2
    · rw [if_neg e]
      exact ⟨fun h => absurd (h k (by omega) (by omega)) e, fun _ => sk_1 d f (k + 1) (by omega) (by omega)⟩
theorem sk {n cz : Nat} {x1 : Int32} {R : IM} (hn : 1000 ≤ n) (hcz : cz ≤ 8) (h58 : R MO 58 = nI cz) (hu : ∀ p q, p < q → q < cz → ¬ (LkR R p ∧ LkR R q)) : ∀ (d f k : Nat) (x2 : Int32), k + d = cz → d < f → (∀ Q, k ≤ Q → Q < cz → LkR R Q → l_Mod_ask_124 n f x1 x2 (nI k) R = l_Mod_ask_124 n 1 x1 (nI Q) (nI cz) R) ∧ ((¬ ∃ Q, k ≤ Q ∧ Q < cz ∧ LkR R Q) → l_Mod_ask_124 n f x1 x2 (nI k) R = l_Mod_ask_124 n 1 x1 x2 (nI cz) R)
  | 0, f + 1, k, x2, hd, _ => by
    have hk : k = cz := by omega
    subst hk
    refine ⟨fun Q a b _ => by omega, fun _ => ?_⟩
    rw [l_Mod_ask_124, l_Mod_ask_124, h58, if_pos (Int32.le_refl _), if_pos (Int32.le_refl _)]
  | d + 1, f + 1, k, x2, hd, hf => by
    have st : l_Mod_ask_124 n (f + 1) x1 x2 (nI k) R = l_Mod_ask_138 n (l_Mod_ask_124 n f) n x1 x2 (nI k) 1 (nI 0) R := by
      rw [l_Mod_ask_124, h58, if_neg (nk (by omega) (by omega))]
      rfl
    obtain ⟨i1, i0⟩ := sk_2 (n := n) (H := l_Mod_ask_124 n f) (x1 := x1) (x2 := x2) (R := R) (show k < 8 by omega) 16 n 0 (by omega) (by omega)
    by_cases e : LkR R k
    · have e' := i1 (fun j _ h2 => e j h2)
      obtain ⟨-, t0⟩ := sk (n := n) (x1 := x1) hn hcz h58 hu d f (k + 1) (nI k) (by omega) (by omega)
      have no : ¬ ∃ Q, k + 1 ≤ Q ∧ Q < cz ∧ LkR R Q := fun ⟨Q, a, b, c⟩ => hu k Q (by omega) b ⟨e, c⟩
      refine ⟨fun Q a b c => ?_, fun h => absurd ⟨k, by omega, by omega, e⟩ h⟩
      have : Q = k := by
        by_cases z : Q = k
        · exact z
        · exact absurd ⟨e, c⟩ (hu k Q (by omega) b)
      rw [st, e', t0 no, this]
    · have e' := i0 (fun h => e (fun j hj => h j (by omega) hj))
      obtain ⟨t1, t0⟩ := sk (n := n) (x1 := x1) hn hcz h58 hu d f (k + 1) x2 (by omega) (by omega)
      refine ⟨fun Q a b c => ?_, fun h => ?_⟩
      · rw [st, e']
        refine t1 Q ?_ b c
        by_cases z : Q = k
        · rw [z] at c; exact absurd c e
        · omega
      · rw [st, e']
        exact t0 (fun ⟨Q, a, b, c⟩ => h ⟨Q, by omega, b, c⟩)
