/-! cacheOf -/
theorem nsb {a b : Nat} (h : b ≤ a) : nI a - nI b = nI (a - b) := by
  have : nI a = nI (a - b) + nI b := by rw [nad]; congr 1; omega
  rw [this, Int32.add_sub_cancel]
theorem nml {a b : Nat} : nI a * nI b = nI (a * b) := by
  unfold nI
  exact (Int32.ofNat_mul a b).symm
theorem nof {x : Int32} (h0 : ¬ x < 0) : x = nI x.toNatClampNeg := by
  have h := nat_of h0
  have hb := Int32.toInt_lt x
  apply Int32.toInt_inj.mp
  rw [nI_toInt (by omega)]
  exact h.symm
theorem nij {a b : Nat} (ha : a < 5000) (hb : b < 5000) (h : nI a = nI b) : a = b := by
  have := congrArg Int32.toNatClampNeg h
  rwa [nkc ha, nkc hb] at this
theorem tel1 {n x g so : Nat} {I : IM} {w : Int32} (hx : x < 602) (hT : I A_ruleTo x = nI (so + g)) (hg : so + g ≤ 600) : ∀ (d f s : Nat), s + d = g → d < f → l_Mod_tells_10 n I f (nI x) w 1 (nI (so + s)) = some 1
  | 0, f + 1, s, hd, _ => by
    have hs : s = g := by omega
    subst hs
    rw [l_Mod_tells_10, chk_i (nki hx (by decide)), nkc (by omega), hT, if_pos (Int32.le_refl _), chk_i (Or.inr rfl)]
  | d + 1, f + 1, s, hd, hf => by
    rw [l_Mod_tells_10, chk_i (nki hx (by decide)), nkc (by omega), hT, if_neg (nk (by omega) (by omega)), if_neg (by decide), b_Mod_tells_36, b_Mod_tells_41, nk1]
    exact tel1 hx hT hg d f (s + 1) (by omega) (by omega)
theorem tel0 {n x g so : Nat} {I : IM} {w : Int32} (hx : x < 602) (hT : I A_ruleTo x = nI (so + g)) (hg : so + g ≤ 600) : ∀ (d f s : Nat), s + d = g → d < f → ((∃ z, s ≤ z ∧ z < g ∧ I A_statementKind (so + z) = w) → l_Mod_tells_10 n I f (nI x) w 0 (nI (so + s)) = some 1) ∧ ((¬ ∃ z, s ≤ z ∧ z < g ∧ I A_statementKind (so + z) = w) → l_Mod_tells_10 n I f (nI x) w 0 (nI (so + s)) = some 0)
  | 0, f + 1, s, hd, _ => by
    have hs : s = g := by omega
    subst hs
    refine ⟨fun ⟨z, h1, h2, _⟩ => by omega, fun _ => ?_⟩
    rw [l_Mod_tells_10, chk_i (nki hx (by decide)), nkc (by omega), hT, if_pos (Int32.le_refl _), chk_i (Or.inl rfl)]
  | d + 1, f + 1, s, hd, hf => by
    have st : l_Mod_tells_10 n I (f + 1) (nI x) w 0 (nI (so + s)) = l_Mod_tells_10 n I f (nI x) w (if I A_statementKind (so + s) = w then 1 else 0) (nI (so + (s + 1))) := by
      rw [l_Mod_tells_10, chk_i (nki hx (by decide)), nkc (by omega), hT, if_neg (nk (by omega) (by omega)), if_pos rfl, chk_i (nki (by omega) (by decide)), nk1, nkc (by omega)]
      rfl
    rw [st]
    by_cases q : I A_statementKind (so + s) = w
    · rw [if_pos q]
      exact ⟨fun _ => tel1 hx hT hg d f (s + 1) (by omega) (by omega), fun h => absurd ⟨s, Nat.le_refl _, by omega, q⟩ h⟩
    · rw [if_neg q]
      obtain ⟨i1, i0⟩ := tel0 (n := n) (w := w) hx hT hg d f (s + 1) (by omega) (by omega)
      refine ⟨fun ⟨z, h1, h2, h3⟩ => i1 ⟨z, ?_, h2, h3⟩, fun h => i0 (fun ⟨z, h1, h2, h3⟩ => h ⟨z, by omega, h2, h3⟩)⟩
      by_cases e : z = s
      · subst e
        exact absurd h3 q
      · omega
/-- tells of a rule of a policy that stands in the tables -/
theorem tel {A : AP} {ko ro so co n q w : Nat} {I : IM} (wf : WF A) (r : PR A ko ro so co I) (hn : 1000 ≤ n) (hq : q < aNr A) (hro : ro ≤ 301) (hso : so ≤ 300) : (aTe A q w → f_Mod_tells n (nI (ro + q)) (nI w) I = some 1) ∧ (¬ aTe A q w → f_Mod_tells n (nI (ro + q)) (nI w) I = some 0) := by
  have w1 := wf.1
  have w2 := wf.2.2.2.1
  have x1 := wf.2.2.1 q hq
  have x2 := sfl wf (show q + 1 ≤ aNr A by omega)
  obtain ⟨e1, e2, -⟩ := r.2.1 q hq
  have hx : ro + q < 602 := by omega
  have st : f_Mod_tells n (nI (ro + q)) (nI w) I = l_Mod_tells_10 n I n (nI (ro + q)) (nI w) 0 (nI (so + aSf A q)) := by
    rw [f_Mod_tells, chk_i (nki hx (by decide)), nkc (by omega), e1]
  obtain ⟨i1, i0⟩ := tel0 (n := n) (w := nI w) hx e2 (by omega) (aSf A (q + 1) - aSf A q) n (aSf A q) (by omega) (by omega)
  rw [st]
  refine ⟨fun ⟨s, h1, h2, h3⟩ => i1 ⟨s, h1, h2, ?_⟩, fun h => i0 (fun ⟨z, h1, h2, h3⟩ => h ⟨z, h1, h2, ?_⟩)⟩
  · rw [(r.2.2.1 s (by omega)).1]; exact h3
  · rw [(r.2.2.1 z (by omega)).1] at h3; exact h3
theorem mod8 : ∀ a, a < 8 → ∀ b, b < 8 → (nI a + nI b) - (nI a + nI b) / (8) * (8) = nI ((a + b) % 8) := by decide
theorem sta8 : ∀ a, a < 8 → ∀ b, b < 8 → (if (8 : Int32) ≤ nI a + nI b then nI a + nI b - 8 else nI a + nI b : Int32) * 25 = nI (25 * ((a + b) % 8)) := by decide
theorem sta0 : ∀ b, b < 8 → (if (8 : Int32) ≤ (0 : Int32) + nI b then (0 : Int32) + nI b - 8 else (0 : Int32) + nI b : Int32) * 25 = nI (25 * b) := by decide
theorem nle {a b : Nat} (ha : a < 5000) (hb : b < 5000) : nI a ≤ nI b ↔ a ≤ b := by
  rw [tl, nI_toInt (by omega), nI_toInt (by omega)]
  omega
theorem nlt {a b : Nat} (ha : a < 5000) (hb : b < 5000) : nI a < nI b ↔ a < b := by
  rw [ti, nI_toInt (by omega), nI_toInt (by omega)]
  omega
set_option maxHeartbeats 1000000 in
theorem c81 {A : AP} {I : IM} {hd n Q w : Nat} (wf : WF A) (r : PR A 0 0 0 0 I) (hn : 1000 ≤ n) (r8 : R8 (tlI I) I hd (curM I)) (hQ : (Q : Int) < (I MO 58).toInt) (hw : w ≤ 4 ∨ (10 ≤ w ∧ w < 25)) : b_Mod_cacheOf_81 n (nI w) (nI Q) (up I MO 0 0) = some (I (hd + 16) (25 * Q + w), up I MO 0 0) := by
  obtain ⟨-, -, u8, -, -, -, -, e7⟩ := r8
  have u8' : (I MO 58).toInt ≤ 8 := u8
  have hQ8 : Q < 8 := by omega
  obtain ⟨f0, f1, ⟨g1, g2, g3, -⟩, f3, f4, f5, -, -⟩ := e7 Q hQ
  have f0' : I (hd + 16) (25 * Q) = I A_cache (16 * Q) := f0
  have g1' : 0 ≤ (I A_cache (16 * Q)).toInt := g1
  have g2' : (I A_cache (16 * Q)).toInt < 22 := g2
  have g3' : tlI I (I A_cache (16 * Q)) 0 := g3
  have f1' : ∀ j, j < 15 → I (hd + 16) (25 * Q + 10 + j) = I A_cache (16 * Q + 1 + j) := f1
  have f3' : I (hd + 16) (25 * Q + 1) = I A_answers (5 * Q) := f3
  have f4' : I A_answers (5 * Q) = 0 ∨ I A_answers (5 * Q) = 3 := f4
  have f5' : ∀ j, j < 3 → (I A_answers (5 * Q) = 0 → tlI I (I A_cache (16 * Q)) (51 + j) → I (hd + 16) (25 * Q + 2 + j) = I A_answers (5 * Q + 1 + j)) ∧ ((I A_answers (5 * Q) = 3 ∨ ¬ tlI I (I A_cache (16 * Q)) (51 + j)) → I (hd + 16) (25 * Q + 2 + j) = 0) := f5
  clear f0 f1 f3 f4 f5 g1 g2 g3 e7 u8
  have m16 : (16 : Int32) * nI Q = nI (16 * Q) := nml (a := 16)
  have m5 : (5 : Int32) * nI Q = nI (5 * Q) := nml (a := 5)
  have c16 : inb (nI (16 * Q)) 128 := nki (by omega) (by decide)
  rw [b_Mod_cacheOf_81]
  by_cases w0 : w = 0
  · subst w0
    rw [if_pos (show nI 0 = 0 from rfl), m16, chk_i c16, nkc (by omega), m0 (show A_cache ≠ MO by decide), ← f0']
    rfl
  have n0 : ¬ nI w = 0 := fun q => w0 (nij (b := 0) (by omega) (by decide) q)
  rw [if_neg n0]
  by_cases w9 : w ≤ 4
  · rw [if_pos (show nI w ≤ 9 from (nle (b := 9) (by omega) (by decide)).mpr (by omega)), m5, chk_i (nki (by omega) (by decide)), nkc (show 5 * Q < 5000 by omega), m0 (show A_answers ≠ MO by decide)]
    by_cases w1 : w = 1
    · subst w1
      rw [if_pos (show nI 1 = 1 from rfl), f3']
      rcases f4' with e | e
      · rw [e]; rfl
      · rw [e]; rfl
    rw [if_neg (show ¬ nI w = 1 from fun q => w1 (nij (b := 1) (by omega) (by decide) q))]
    obtain ⟨j, hj⟩ : ∃ j, w = 2 + j := ⟨w - 2, by omega⟩
    have hj3 : j < 3 := by omega
    subst hj
    rw [show 25 * Q + (2 + j) = 25 * Q + 2 + j by omega]
    obtain ⟨x1, x0⟩ := f5' j hj3
    rcases f4' with e | e
    · rw [e, if_neg (show ¬ (0 : Int32) = 3 by decide), if_pos rfl, m16, chk_i c16, nkc (show 16 * Q < 5000 by omega), m0 (show A_cache ≠ MO by decide)]
      obtain ⟨hk, hk0⟩ := kdc g1' g2'
      obtain ⟨q, hq, eq⟩ := tl_n wf r hk g3'
      have w1 := wf.1
      have e1 := (r.1 _ hk).2 q hq eq
      rw [Nat.zero_add] at e1
      have r' : PR A 0 0 0 0 (up I MO 0 0) := PR_c (fu (by decide)) (fu (by decide)) (fu (by decide)) (fu (by decide)) (fu (by decide)) (fu (by decide)) (fu (by decide)) (fu (by decide)) (fu (by decide)) r
      rw [chk_i (inb_of hk0 (by omega)), m0 (show A_ruleOf ≠ MO by decide), e1, show (51 : Int32) + nI (2 + j) - 2 = nI (51 + j) by
        rw [show (51 : Int32) = nI 51 from rfl, nad, show (2 : Int32) = nI 2 from rfl, nsb (by omega)]
        congr 1
        omega]
      obtain ⟨t1, t0⟩ := tel (w := 51 + j) (n := n) wf r' hn hq (by decide) (by decide)
      obtain ⟨-, tq⟩ := tl_q wf r hk hq eq
      by_cases te : aTe A q (51 + j)
      · rw [t1 te, Option.bind_some, if_neg (by decide), show nI (5 * Q) + nI (2 + j) - 1 = nI (5 * Q + 1 + j) by
          rw [nad, show (1 : Int32) = nI 1 from rfl, nsb (by omega)]
          congr 1
          omega]
        rw [chk_i (nki (by omega) (by decide)), b_Mod_cacheOf_206, nkc (by omega), m0 (show A_answers ≠ MO by decide), x1 e ((tq j hj3).mpr te)]
      · rw [t0 te, Option.bind_some, if_pos rfl, b_Mod_cacheOf_205, b_Mod_cacheOf_206, x0 (Or.inr (fun z => te ((tq j hj3).mp z)))]
    · rw [e, if_pos rfl, if_neg (by decide), b_Mod_cacheOf_205, b_Mod_cacheOf_206, x0 (Or.inl e)]
  · obtain ⟨j, hj⟩ : ∃ j, w = 10 + j := ⟨w - 10, by omega⟩
    subst hj
    rw [if_neg (show ¬ nI (10 + j) ≤ 9 from fun q => by have := (nle (b := 9) (by omega) (by decide)).mp q; omega), m16, show nI (16 * Q) + nI (10 + j) - 9 = nI (16 * Q + 1 + j) by
      rw [nad, show (9 : Int32) = nI 9 from rfl, nsb (by omega)]
      congr 1
      omega]
    rw [chk_i (nki (by omega) (by decide)), nkc (by omega), m0 (show A_cache ≠ MO by decide), show 25 * Q + (10 + j) = 25 * Q + 10 + j by omega, f1' j (by omega)]
/-- the row of the i-th answer that is kept, on both sides -/
theorem rowQ {I : IM} {hd i : Nat} (hm : isMch hd) (rc : RC I) (r8 : R8 (tlI I) I hd (curM I)) (hi : (i : Int) < (I MO 58).toInt) : ∃ Q : Nat, (Q : Int) < (I MO 58).toInt ∧ f_Rng_startOf (hd + 15) (nI i) I = some (nI (25 * Q)) ∧ (¬ (8 : Int32) ≤ I MO 58 → Q = i) ∧ ((8 : Int32) ≤ I MO 58 → ((I MO 59) + nI i) - ((I MO 59) + nI i) / (8) * (8) = nI Q) := by
  obtain ⟨a0, a1, a2, a3, a4, a5, a6, -⟩ := r8
  have a1' : 0 ≤ (I MO 58).toInt := a1
  have a2' : (I MO 58).toInt ≤ 8 := a2
  have a3' : 0 ≤ (I MO 59).toInt := a3
  have a4' : (I MO 59).toInt < 8 := a4
  have a5' : I (hd + 15) 1 = if I MO 58 = 8 then I MO 59 else 0 := a5
  obtain ⟨c2, c3, -, -⟩ := rc hd hm
  have hi8 : i < 8 := by omega
  by_cases c : (8 : Int32) ≤ I MO 58
  · have c8 : I MO 58 = 8 := by
      rw [tl] at c
      simp only [Int32.reduceToInt] at c
      apply Int32.toInt_inj.mp
      simp only [Int32.reduceToInt]
      omega
    have hp0 : ¬ I MO 59 < 0 := by rw [ti]; simp only [Int32.reduceToInt]; omega
    have hp := nof hp0
    have hp8 : (I MO 59).toNatClampNeg < 8 := nat_lt hp0 (by omega)
    refine ⟨((I MO 59).toNatClampNeg + i) % 8, ?_, ?_, fun q => absurd c q, fun _ => ?_⟩
    · rw [c8]
      show _ < (8 : Int)
      omega
    · rw [f_Rng_startOf, c2, c3, a5', if_pos c8]
      congr 1
      have := sta8 _ hp8 i hi8
      rw [← hp] at this
      exact this
    · have := mod8 _ hp8 i hi8
      rw [← hp] at this
      exact this
  · have c8 : ¬ I MO 58 = 8 := fun q => c (by rw [q]; decide)
    refine ⟨i, hi, ?_, fun _ => rfl, fun q => absurd q c⟩
    rw [f_Rng_startOf, c2, c3, a5', if_neg c8]
    congr 1
    exact sta0 i hi8
set_option maxHeartbeats 1000000 in
theorem ma_cacheOf {KT : (Nat → Int32) → Int32 → AP → Prop} : Ma_cacheOf (Rl (PXk KT)) := by
  intro a0 a1 t ht rl hd ot pt it J I p1 p2 p3 p4 p5 hJ hR
  obtain ⟨-, -, rc, -, -, rm, -, -, A, B, wA, -, rA, -, -, -, -, -⟩ := id hR
  obtain ⟨n, hn⟩ : ∃ n : Nat, 1000 ≤ n := ⟨1000, Nat.le_refl _⟩
  have r8 := rm.2.2.2.2.2.2.2.1
  have e58 : I (hd + 15) 0 = I MO 58 := r8.1
  have b58 : (I MO 58).toInt ≤ 8 := r8.2.2.1
  have b58' : 0 ≤ (I MO 58).toInt := r8.2.1
  have one : ∀ {x : Int32}, x < 0 ∨ ¬ x < I MO 58 → f_Mod_cacheOf n x a1 I = some (0, up I MO 0 1) := by
    intro x hx
    have e : f_Mod_in x 0 (I MO 58 - 1) I = some 0 := by
      by_cases c : x < 0
      · simp [f_Mod_in, c, chk]
      · have c' : (I MO 58 - 1) < x := by
          rcases hx with hx | hx
          · exact absurd hx c
          · rw [ti] at hx ⊢
            rw [isub (by simp only [Int32.reduceToInt]; omega) (by simp only [Int32.reduceToInt]; omega)]
            simp only [Int32.reduceToInt]
            omega
        simp [f_Mod_in, c, c', chk]
    rw [f_Mod_cacheOf, e, Option.bind_some, if_pos rfl, if_pos rfl, b_Mod_cacheOf_50, b_Mod_cacheOf_51, refuse_1, Option.bind_some, if_neg (show ¬ (1 : Int32) = 0 by decide)]
  by_cases c1 : a0 < 0
  · refine Or.inr (Or.inl ⟨n, 0, up I MO 0 1, ?_, one (Or.inl c1), up_self, Rl_thr PXk_F p2 p3 hR⟩)
    rw [t_Eng_cacheOf, if_pos c1]; rfl
  by_cases c2 : a0 < I MO 58
  rotate_left
  · refine Or.inr (Or.inl ⟨n, 0, up I MO 0 1, ?_, one (Or.inr c2), up_self, Rl_thr PXk_F p2 p3 hR⟩)
    rw [t_Eng_cacheOf, if_neg c1, e58, if_neg c2]; rfl
  have c2i : a0.toInt < (I MO 58).toInt := by rwa [ti] at c2
  have hi := nof c1
  obtain ⟨i, ei⟩ : ∃ i, i = a0.toNatClampNeg := ⟨_, rfl⟩
  rw [← ei] at hi
  have hii : (i : Int) < (I MO 58).toInt := by
    have := nat_of c1
    omega
  obtain ⟨Q, hQ, sQ, q1, q2⟩ := rowQ p2 rc r8 hii
  rw [← hi] at sQ q2
  have hQ8 : Q < 8 := by omega
  have e1 : f_Mod_in a0 0 (I MO 58 - 1) I = some 1 := by
    have c' : ¬ (I MO 58 - 1) < a0 := by
      rw [ti, isub (by simp only [Int32.reduceToInt]; omega) (by simp only [Int32.reduceToInt]; omega)]
      simp only [Int32.reduceToInt]
      omega
    simp [f_Mod_in, c1, c', chk]
  have bad : ∀ (_ : f_Mod_in a1 0 4 I = some 0) (_ : f_Mod_in a1 10 24 I = some 0), f_Mod_cacheOf n a0 a1 I = some (0, up I MO 0 2) := by
    intro z1 z2
    rw [f_Mod_cacheOf, e1, Option.bind_some, if_neg (by decide), z1, Option.bind_some, if_pos rfl, z2, Option.bind_some, if_neg (by decide), if_pos rfl, refuse_2, Option.bind_some, if_neg (show ¬ (1 : Int32) = 0 by decide)]
  have good : ∀ w : Nat, a1 = nI w → (w ≤ 4 ∨ (10 ≤ w ∧ w < 25)) → f_Mod_cacheOf n a0 a1 I = some (I (hd + 16) (25 * Q + w), up I MO 0 0) := by
    intro w ew hw
    have cc := c81 wA rA hn r8 hQ hw
    have tail : (if (8 : Int32) ≤ (up I MO 0 0 MO 58 : Int32) then (b_Mod_cacheOf_81 n a1 (((up I MO 0 0 MO 59) + a0) - ((up I MO 0 0 MO 59) + a0) / (8) * (8)) (up I MO 0 0)) else (b_Mod_cacheOf_81 n a1 a0 (up I MO 0 0))) = some (I (hd + 16) (25 * Q + w), up I MO 0 0) := by
      rw [m0j (show 58 ≠ 0 by decide), m0j (show 59 ≠ 0 by decide)]
      by_cases c : (8 : Int32) ≤ I MO 58
      · rw [if_pos c, q2 c, ew]
        exact cc
      · rw [if_neg c, hi, ← q1 c, ew]
        exact cc
    rw [f_Mod_cacheOf, e1, Option.bind_some, if_neg (by decide)]
    rcases hw with hw | ⟨hw, hw2⟩
    · have z1 : f_Mod_in a1 0 4 I = some 1 := by
        have x1 : ¬ a1 < 0 := by rw [ew]; exact fun q => by have := (nlt (b := 0) (by omega) (by decide)).mp q; omega
        have x2 : ¬ (4 : Int32) < a1 := by rw [ew]; exact fun q => by have := (nlt (a := 4) (by decide) (by omega)).mp q; omega
        simp [f_Mod_in, x1, x2, chk]
      rw [z1, Option.bind_some, if_neg (by decide), if_neg (by decide), b_Mod_cacheOf_50, b_Mod_cacheOf_51, refuse_0, Option.bind_some, if_pos rfl]
      exact tail
    · have z1 : f_Mod_in a1 0 4 I = some 0 := by
        have x1 : ¬ a1 < 0 := by rw [ew]; exact fun q => by have := (nlt (b := 0) (by omega) (by decide)).mp q; omega
        have x2 : (4 : Int32) < a1 := by rw [ew]; exact (nlt (a := 4) (by decide) (by omega)).mpr (by omega)
        simp [f_Mod_in, x1, x2, chk]
      have z2 : f_Mod_in a1 10 24 I = some 1 := by
        have x1 : ¬ a1 < 10 := by rw [ew]; exact fun q => by have := (nlt (b := 10) (by omega) (by decide)).mp q; omega
        have x2 : ¬ (24 : Int32) < a1 := by rw [ew]; exact fun q => by have := (nlt (a := 24) (by decide) (by omega)).mp q; omega
        simp [f_Mod_in, x1, x2, chk]
      rw [z1, Option.bind_some, if_pos rfl, z2, Option.bind_some, if_neg (by decide), refuse_0, Option.bind_some, if_pos rfl]
      exact tail
  have cell : ∀ w : Nat, a1 = nI w → w < 25 → f_Rng_cell (hd + 15) a0 a1 I = some (I (hd + 16) (25 * Q + w)) := by
    intro w ew hw
    have hl : lenA (hd + 15 + 1) = 200 := ln_16 p2
    rw [f_Rng_cell, sQ, Option.bind_some, ew, nad, hl, if_neg (fun q => by have := (nlt (b := 0) (by omega) (by decide)).mp q; omega), if_neg (show ¬ Int32.ofNat 200 ≤ nI (25 * Q + w) from nk (N := 200) (by omega) (by decide)), chk_i (nki (by omega) (by decide)), b_Rng_cell_31, nkc (by omega)]
  have fin : ∀ w : Nat, a1 = nI w → (w ≤ 4 ∨ (10 ≤ w ∧ w < 25)) → f_Eng_cacheOf hd a0 a1 I = some (I (hd + 16) (25 * Q + w)) := by
    intro w ew hw
    have x1 : ¬ a1 < 0 := by rw [ew]; exact fun q => by have := (nlt (b := 0) (by omega) (by decide)).mp q; omega
    have x3 : a1 < 25 := by rw [ew]; exact (nlt (b := 25) (by omega) (by decide)).mpr (by omega)
    rw [f_Eng_cacheOf, if_neg c1, e58, if_pos c2, if_neg x1]
    rcases hw with hw | ⟨hw, hw2⟩
    · rw [if_pos (show a1 ≤ 4 by rw [ew]; exact (nle (b := 4) (by omega) (by decide)).mpr hw), b_Eng_cacheOf_43, if_pos x3, cell w ew (by omega), Option.bind_some]
    · rw [if_neg (show ¬ a1 ≤ 4 by rw [ew]; exact fun q => by have := (nle (b := 4) (by omega) (by decide)).mp q; omega), if_neg (show ¬ a1 < 10 by rw [ew]; exact fun q => by have := (nlt (b := 10) (by omega) (by decide)).mp q; omega), b_Eng_cacheOf_43, if_pos x3, cell w ew (by omega), Option.bind_some]
  by_cases c3 : a1 < 0
  · refine Or.inr (Or.inr ⟨n, 0, up I MO 0 2, ?_, bad ?_ ?_, up_self, Rl_thr PXk_F p2 p3 hR⟩)
    · rw [t_Eng_cacheOf, if_neg c1, e58, if_pos c2, if_pos c3]; rfl
    · simp [f_Mod_in, c3, chk]
    · have : a1 < 10 := by
        rw [ti] at c3 ⊢
        simp only [Int32.reduceToInt] at c3 ⊢
        omega
      simp [f_Mod_in, this, chk]
  have hw := nof c3
  obtain ⟨w, ew⟩ : ∃ w, w = a1.toNatClampNeg := ⟨_, rfl⟩
  rw [← ew] at hw
  have hwi := nat_of c3
  rw [← ew] at hwi
  by_cases g : w ≤ 4 ∨ (10 ≤ w ∧ w < 25)
  · exact Or.inl ⟨n, _, up I MO 0 0, fin w hw g, good w hw g, up_self, Rl_thr PXk_F p2 p3 hR⟩
  · have y4 : (4 : Int32) < a1 := by
      rw [ti]
      simp only [Int32.reduceToInt]
      omega
    refine Or.inr (Or.inr ⟨n, 0, up I MO 0 2, ?_, bad ?_ ?_, up_self, Rl_thr PXk_F p2 p3 hR⟩)
    · rw [t_Eng_cacheOf, if_neg c1, e58, if_pos c2, if_neg c3, if_neg (ile.mpr y4)]
      by_cases y10 : a1 < 10
      · rw [if_pos y10]; rfl
      · have y25 : ¬ a1 < 25 := by
          rw [ti] at y10 ⊢
          simp only [Int32.reduceToInt] at y10 ⊢
          omega
        rw [if_neg y10, tEng_cacheOf_b_43, if_neg y25]; rfl
    · simp [f_Mod_in, c3, y4, chk]
    · by_cases y10 : a1 < 10
      · simp [f_Mod_in, y10, chk]
      · have y24 : (24 : Int32) < a1 := by
          rw [ti] at y10 ⊢
          simp only [Int32.reduceToInt] at y10 ⊢
          omega
        simp [f_Mod_in, y10, y24, chk]
