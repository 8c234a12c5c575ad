/-! questions, rings -/
theorem anda {x : Int32} {c : Nat} (hc : c < 5000) : ∃ a, a ≤ c ∧ x &&& nI c = nI a := by
  have e : (nI c).toBitVec = BitVec.ofNat 32 c := by unfold nI; exact Int32.toBitVec_ofNat' ..
  refine ⟨(x &&& nI c).toBitVec.toNat, ?_, ?_⟩
  · rw [Int32.toBitVec_and, BitVec.toNat_and, e, BitVec.toNat_ofNat, Nat.mod_eq_of_lt (by omega)]
    exact Nat.and_le_right
  · unfold nI
    apply Int32.toBitVec_inj.mp
    rw [Int32.toBitVec_ofNat']
    simp
    rw [Nat.mod_eq_of_lt (by omega)]
theorem and1 {x : Int32} : (¬ x &&& 1 = 0) ↔ x &&& 1 = 1 := by
  obtain ⟨a, h1, h2⟩ := anda (x := x) (c := 1) (by decide)
  have h2' : x &&& 1 = nI a := h2
  rw [h2']
  have : a = 0 ∨ a = 1 := by omega
  rcases this with rfl | rfl <;> decide
/-- the class's nameValue doesn't hang on the record -/
theorem nvc_c {m : Nat} {x : Int32} {C D : IM} (hm : isMch m) (h : ∀ b, b ≠ 37 → D b = C b) : f_Stp_nameValue m x D = f_Stp_nameValue m x C := by
  have k : ∀ i, i < 19 → D (m + i) = C (m + i) := fun i hi => h _ (by rcases hm with rfl | rfl | rfl <;> omega)
  have k0 : D m = C m := k 0 (by decide)
  unfold f_Stp_nameValue f_Stp_ofWord f_Stp_reachesWord f_Mch_hasWord b_Stp_ofWord_38 b_Stp_ofWord_40 b_Stp_nameValue_191 b_Stp_nameValue_192
  rw [k 7 (by decide), k 6 (by decide), k 4 (by decide), k 5 (by decide), k 13 (by decide), k 9 (by decide), k0, h 35 (by decide)]
theorem fq_l {n m : Nat} {nm : Int32} {C0 : IM} {vl : Nat → Int32} (hnv : ∀ k, k < 15 → ∀ D : IM, (∀ b, b ≠ 37 → D b = C0 b) → f_Stp_nameValue m (nI k) D = some (vl k)) : ∀ (d f k : Nat) (C : IM), k + d = 15 → d < f → (∀ b, b ≠ 37 → C b = C0 b) → ∃ C', l_Stp_fillQuestion_15 n m f nm (nI k) C = some C' ∧ (∀ b, b ≠ 37 → C' b = C b) ∧ (∀ j, k ≤ j → j < 15 → (tbi nm j → C' 37 (10 + j) = vl j) ∧ (¬ tbi nm j → C' 37 (10 + j) = 0)) ∧ ∀ j, j < 10 + k ∨ 25 ≤ j → C' 37 j = C 37 j
  | 0, f + 1, k, C, hd, _, _ => by
    have hk : k = 15 := by omega
    subst hk
    exact ⟨C, by rw [l_Stp_fillQuestion_15, if_pos (by decide)], fun _ _ => rfl, fun j h1 h2 => by omega, fun _ _ => rfl⟩
  | d + 1, f + 1, k, C, hd, hf, hC => by
    have e10 : (10 : Int32) + nI k = nI (10 + k) := nad (a := 10)
    have b50 : ∀ v, b_Stp_fillQuestion_50 n m (l_Stp_fillQuestion_15 n m f) nm (nI k) v (nI (10 + k)) C = l_Stp_fillQuestion_15 n m f nm (nI (k + 1)) (up C 37 (10 + k) v) := fun v => by
      rw [b_Stp_fillQuestion_50, chk_i (nki (by omega) (by decide)), lt, nkc (by omega), nk1]
    have go : ∀ v, ((tbi nm k → v = vl k) ∧ (¬ tbi nm k → v = 0)) → l_Stp_fillQuestion_15 n m (f + 1) nm (nI k) C = l_Stp_fillQuestion_15 n m f nm (nI (k + 1)) (up C 37 (10 + k) v) → ∃ C', l_Stp_fillQuestion_15 n m (f + 1) nm (nI k) C = some C' ∧ (∀ b, b ≠ 37 → C' b = C b) ∧ (∀ j, k ≤ j → j < 15 → (tbi nm j → C' 37 (10 + j) = vl j) ∧ (¬ tbi nm j → C' 37 (10 + j) = 0)) ∧ ∀ j, j < 10 + k ∨ 25 ≤ j → C' 37 j = C 37 j := by
      intro v hv st
      obtain ⟨C', e, a1, a2, a3⟩ := fq_l (n := n) hnv d f (k + 1) (up C 37 (10 + k) v) (by omega) (by omega) (fun b hb => by rw [fu hb]; exact hC b hb)
      refine ⟨C', st.trans e, fun b hb => by rw [a1 b hb, fu hb], fun j h1 h2 => ?_, fun j hj => ?_⟩
      · by_cases q : j = k
        · rw [q, a3 (10 + k) (Or.inl (by omega)), up_self]
          exact hv
        · exact a2 j (by omega) h2
      · rw [a3 j (by omega), up_ne (Or.inr (by omega))]
    by_cases q : tbi nm k
    · refine go (vl k) ⟨fun _ => rfl, fun z => absurd q z⟩ ?_
      rw [l_Stp_fillQuestion_15, if_neg (show ¬ (15 : Int32) ≤ nI k from nk (N := 15) (by omega) (by decide)), if_neg q, hnv k (by omega) C hC, Option.bind_some, e10, b50]
    · refine go 0 ⟨fun z => absurd z q, fun _ => rfl⟩ ?_
      rw [l_Stp_fillQuestion_15, if_neg (show ¬ (15 : Int32) ≤ nI k from nk (N := 15) (by omega) (by decide)), if_pos (Decidable.of_not_not q), e10, b50]
/-- the reference's nameValue doesn't hang on the question -/
theorem nvr_c {x : Int32} {R D : IM} (h : ∀ b, b ≠ 133 → D b = R b) : f_Mod_nameValue x D = f_Mod_nameValue x R := by
  unfold f_Mod_nameValue b_Mod_nameValue_202 b_Mod_nameValue_232 b_Mod_nameValue_258 b_Mod_nameValue_259
  rw [h MO (by decide), h A_registerTags (by decide), h A_registers (by decide), h A_held (by decide), h A_owners (by decide), h A_inputTags (by decide), h A_codeTags (by decide), h A_caseValue (by decide)]
theorem aq_l {n x : Nat} {nm : Int32} {R0 : IM} {vl : Nat → Int32} (hx : x < 602) (hnm : R0 A_named x = nm) (hnv : ∀ k, k < 15 → f_Mod_nameValue (nI k) R0 = some (vl k)) : ∀ (d f k : Nat) (R : IM), k + d = 15 → d < f → (∀ b, b ≠ 133 → R b = R0 b) → ∃ R', l_Mod_ask_45 n f (nI x) (nI k) R = l_Mod_ask_45 n 1 (nI x) (nI 15) R' ∧ (∀ b, b ≠ 133 → R' b = R b) ∧ (∀ j, k ≤ j → j < 15 → (tbi nm j → R' 133 (1 + j) = vl j) ∧ (¬ tbi nm j → R' 133 (1 + j) = 0)) ∧ ∀ j, j < 1 + k → R' 133 j = R 133 j
  | 0, f + 1, k, R, hd, _, _ => by
    have hk : k = 15 := by omega
    subst hk
    exact ⟨R, by rw [l_Mod_ask_45, l_Mod_ask_45, if_pos (by decide), if_pos (by decide)], fun _ _ => rfl, fun j h1 h2 => by omega, fun _ _ => rfl⟩
  | d + 1, f + 1, k, R, hd, hf, hR => by
    have b81 : ∀ v, b_Mod_ask_81 n (l_Mod_ask_45 n f) (nI x) (nI k) v (nI (k + 1)) R = l_Mod_ask_45 n f (nI x) (nI (k + 1)) (up R A_question (k + 1) v) := fun v => by
      rw [b_Mod_ask_81, chk_i (nki (by omega) (by decide)), lt, nkc (by omega), nk1]
    have go : ∀ v, ((tbi nm k → v = vl k) ∧ (¬ tbi nm k → v = 0)) → l_Mod_ask_45 n (f + 1) (nI x) (nI k) R = l_Mod_ask_45 n f (nI x) (nI (k + 1)) (up R A_question (k + 1) v) → ∃ R', l_Mod_ask_45 n (f + 1) (nI x) (nI k) R = l_Mod_ask_45 n 1 (nI x) (nI 15) R' ∧ (∀ b, b ≠ 133 → R' b = R b) ∧ (∀ j, k ≤ j → j < 15 → (tbi nm j → R' 133 (1 + j) = vl j) ∧ (¬ tbi nm j → R' 133 (1 + j) = 0)) ∧ ∀ j, j < 1 + k → R' 133 j = R 133 j := by
      intro v hv st
      obtain ⟨R', e, a1, a2, a3⟩ := aq_l (n := n) hx hnm hnv d f (k + 1) (up R A_question (k + 1) v) (by omega) (by omega) (fun b hb => by rw [fu hb]; exact hR b hb)
      refine ⟨R', st.trans e, fun b hb => by rw [a1 b hb, fu hb], fun j h1 h2 => ?_, fun j hj => ?_⟩
      · by_cases q : j = k
        · rw [q, a3 (1 + k) (by omega), show 1 + k = k + 1 by omega, show (133 : Nat) = A_question from rfl, up_self]
          exact hv
        · exact a2 j (by omega) h2
      · rw [a3 j (by omega), up_ne (Or.inr (by omega))]
    have en : R A_named x = nm := by rw [hR A_named (by decide)]; exact hnm
    by_cases q : tbi nm k
    · refine go (vl k) ⟨fun _ => rfl, fun z => absurd q z⟩ ?_
      rw [l_Mod_ask_45, if_neg (show ¬ (15 : Int32) ≤ nI k from nk (N := 15) (by omega) (by decide)), chk_i (nki hx (by decide)), nkc (show x < 5000 by omega), en, if_pos (and1.mp q), nvr_c hR, hnv k (by omega), Option.bind_some, nk1, b81]
    · refine go 0 ⟨fun z => absurd z q, fun _ => rfl⟩ ?_
      rw [l_Mod_ask_45, if_neg (show ¬ (15 : Int32) ≤ nI k from nk (N := 15) (by omega) (by decide)), chk_i (nki hx (by decide)), nkc (show x < 5000 by omega), en, if_neg (fun z => q (and1.mpr z)), nk1, b81]
/-- where a ring's row starts -/
theorem rst {x0 M w f i : Nat} {C : IM} (h2 : C x0 2 = nI M) (h3 : C x0 3 = nI w) (h1 : C x0 1 = nI f) (hM : M ≤ 16) (hf : f < M) (hi : i < M) (hw : w ≤ 25) : f_Rng_startOf x0 (nI i) C = some (nI (w * ((f + i) % M))) := by
  rw [f_Rng_startOf, h2, h3, h1, nad]
  congr 1
  by_cases q : M ≤ f + i
  · rw [if_pos ((nle (by omega) (by omega)).mpr q), nsb q, nml, Nat.mod_eq_sub_mod q, Nat.mod_eq_of_lt (by omega), Nat.mul_comm]
  · rw [if_neg (fun z => q ((nle (by omega) (by omega)).mp z)), nml, Nat.mod_eq_of_lt (by omega), Nat.mul_comm]
theorem cpy_at {I : IM} {a b k sa sb n j : Nat} (ha : a ≠ b) : cpy I a b sa sb n k j = if k = b ∧ sb ≤ j ∧ j < sb + n then I a (sa + (j - sb)) else I k j := by
  unfold cpy upA va_cpy
  by_cases q : k = b
  · subst q
    rw [if_pos rfl]
    by_cases h : sb ≤ j ∧ j < sb + n
    · rw [if_pos h, if_pos ⟨rfl, h⟩]
    · rw [if_neg h, if_neg (fun z => h z.2)]
  · rw [if_neg q, if_neg (fun z => q z.1)]
set_option maxHeartbeats 1000000 in
theorem radd {x0 x1 M w cz fz : Nat} {C : IM} (h2 : C x0 2 = nI M) (h3 : C x0 3 = nI w) (h0 : C x0 0 = nI cz) (h1 : C x0 1 = nI fz) (hM : M ≤ 16) (hM0 : 0 < M) (hw : w ≤ 25) (hcz : cz ≤ M) (hfz : fz < M) (l1 : lenA (x0 + 1) = M * w) (l2 : lenA x1 = w) (hx : x1 ≠ x0) (hx1 : x1 ≠ x0 + 1) : ∃ C', f_Rng_add x0 x1 C = some C' ∧ (∀ b, b ≠ x0 → b ≠ x0 + 1 → C' b = C b) ∧ C' x0 0 = nI (if cz = M then M else cz + 1) ∧ C' x0 1 = nI (if cz = M then (fz + 1) % M else fz) ∧ (∀ j, 2 ≤ j → C' x0 j = C x0 j) ∧ (∀ j, j < w → C' (x0 + 1) (w * (if cz = M then fz else (fz + cz) % M) + j) = C x1 j) ∧ ∀ j, (j < w * (if cz = M then fz else (fz + cz) % M) ∨ w * (if cz = M then fz else (fz + cz) % M) + w ≤ j) → C' (x0 + 1) j = C (x0 + 1) j := by
  have tail : ∀ (D : IM) (c f : Nat), D x0 0 = nI (c + 1) → D x0 1 = nI f → D x0 2 = nI M → D x0 3 = nI w → c < M → f < M → b_Rng_add_51 x0 x1 D = some (cpy D x1 (x0 + 1) 0 (w * ((f + c) % M)) w) := by
    intro D c f d0 d1 d2 d3 hc hf
    have hr : (f + c) % M < M := Nat.mod_lt _ hM0
    obtain ⟨r, er⟩ : ∃ r, r = (f + c) % M := ⟨_, rfl⟩
    have e1 : nI (c + 1) - 1 = nI c := nsb (b := 1) (by omega)
    have hwr : w * r + w ≤ M * w := by
      rw [← er] at hr
      have : w * (r + 1) ≤ w * M := Nat.mul_le_mul_left w (by omega)
      rw [Nat.mul_add, Nat.mul_one, Nat.mul_comm w M] at this
      exact this
    have hMw : M * w ≤ 400 := by
      have := Nat.mul_le_mul hM hw
      omega
    rw [b_Rng_add_51, d0, e1, rst d2 d3 d1 hM hf hc hw, Option.bind_some, ← er, if_neg (show ¬ nI (w * r) < 0 from fun z => by have := (nlt (b := 0) (by omega) (by decide)).mp z; omega), d3, nad, l1, if_neg (show ¬ Int32.ofNat (M * w) < nI (w * r + w) from fun z => by have := (nlt (a := M * w) (by omega) (by omega)).mp z; omega), l2, if_neg (show ¬ Int32.ofNat w < nI w from fun z => by have := (nlt (a := w) (by omega) (by omega)).mp z; omega), chk_i (show ¬ nI (w * r) < 0 from fun z => by have := (nlt (b := 0) (by omega) (by decide)).mp z; omega), chk_i (show ¬ nI w < 0 from fun z => by have := (nlt (b := 0) (by omega) (by decide)).mp z; omega), nkc (show w < 5000 by omega), nkc (show w * r < 5000 by omega), chk_i (by show 0 + w ≤ w; omega), chk_i (by omega), lt, b_Rng_add_103]
    rfl
  have fin : ∀ (D : IM) (c f r : Nat), r = (f + c) % M → f_Rng_add x0 x1 C = b_Rng_add_51 x0 x1 D → (∀ b, b ≠ x0 → D b = C b) → (∀ j, 2 ≤ j → D x0 j = C x0 j) → D x0 0 = nI (c + 1) → D x0 1 = nI f → c < M → f < M → ∃ C', f_Rng_add x0 x1 C = some C' ∧ (∀ b, b ≠ x0 → b ≠ x0 + 1 → C' b = C b) ∧ C' x0 0 = nI (c + 1) ∧ C' x0 1 = nI f ∧ (∀ j, 2 ≤ j → C' x0 j = C x0 j) ∧ (∀ j, j < w → C' (x0 + 1) (w * r + j) = C x1 j) ∧ ∀ j, (j < w * r ∨ w * r + w ≤ j) → C' (x0 + 1) j = C (x0 + 1) j := by
    intro D c f r er hst hb hj d0 d1 hc hf
    refine ⟨cpy D x1 (x0 + 1) 0 (w * r) w, ?_, fun b q1 q2 => ?_, ?_, ?_, fun j q => ?_, fun j q => ?_, fun j q => ?_⟩
    · rw [hst, tail D c f d0 d1 (by rw [hj 2 (by decide)]; exact h2) (by rw [hj 3 (by decide)]; exact h3) hc hf, er]
    · funext j
      rw [cpy_at hx1, if_neg (fun z => q2 z.1), hb b q1]
    · rw [cpy_at hx1, if_neg (fun z => by omega)]; exact d0
    · rw [cpy_at hx1, if_neg (fun z => by omega)]; exact d1
    · rw [cpy_at hx1, if_neg (fun z => by omega)]; exact hj j q
    · rw [cpy_at hx1, if_pos ⟨rfl, by omega, by omega⟩, Nat.zero_add, Nat.add_sub_cancel_left, hb x1 hx]
    · rw [cpy_at hx1, if_neg (fun z => by omega), hb _ (by omega)]
  by_cases q : cz = M
  · rw [if_pos q, if_pos q, if_pos q]
    have er : fz = ((fz + 1) % M + (M - 1)) % M := by
      by_cases z : fz + 1 = M
      · rw [z, Nat.mod_self, Nat.zero_add, Nat.mod_eq_of_lt (by omega)]; omega
      · rw [Nat.mod_eq_of_lt (show fz + 1 < M by omega), show fz + 1 + (M - 1) = fz + M by omega, Nat.add_mod_right, Nat.mod_eq_of_lt hfz]
    have efz : (if nI M ≤ nI fz + 1 then 0 else nI fz + 1 : Int32) = nI ((fz + 1) % M) := by
      rw [nk1]
      by_cases z : fz + 1 = M
      · rw [z, if_pos (Int32.le_refl _), Nat.mod_self]; rfl
      · rw [if_neg (fun y => by have := (nle (by omega) (by omega)).mp y; omega), Nat.mod_eq_of_lt (by omega)]
    have := fin (up C x0 1 (nI ((fz + 1) % M))) (M - 1) ((fz + 1) % M) fz er (by
      rw [f_Rng_add, h2, h0, q, if_pos (Int32.le_refl _), lt, h1]
      exact congrArg (fun z => b_Rng_add_51 x0 x1 (up C x0 1 z)) efz) (fun b hb => fu hb) (fun j hj => up_ne (Or.inr (by omega))) (by rw [up_ne (Or.inr (by decide)), h0, q]; congr 1; omega) up_self (by omega) (Nat.mod_lt _ hM0)
    rw [show M - 1 + 1 = M by omega] at this
    exact this
  · rw [if_neg q, if_neg q, if_neg q]
    refine fin (up C x0 0 (nI (cz + 1))) cz fz _ rfl ?_ (fun b hb => fu hb) (fun j hj => up_ne (Or.inr (by omega))) up_self (by rw [up_ne (Or.inr (by decide))]; exact h1) (by omega) hfz
    rw [f_Rng_add, h2, h0, if_neg (fun z => by have := (nle (by omega) (by omega)).mp z; omega), lt, nk1]
