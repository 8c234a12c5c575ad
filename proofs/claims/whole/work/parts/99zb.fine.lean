/-! frames of an image's lines, finer: the cache and the journal stay -/
set_option maxRecDepth 20000 in
set_option maxHeartbeats 4000000 in
theorem fsb_Mch_setCode_24 {x0 : Nat} {b : Nat} {r : IM} (o0 : b < x0 ∨ x0 + 14 ≤ b)   {I : IM} (h : b_Mch_setCode_24 x0   I = some r) : r b = I b := by
  unfold b_Mch_setCode_24 at h
  have F : I b = I b := rfl
  cases h
  exact F
set_option maxRecDepth 20000 in
set_option maxHeartbeats 4000000 in
theorem fsr_Mch_setCode {x0 : Nat} {x1 : Int32} {x2 : Int32} {x3 : Int32} {I : IM} {b : Nat} {r : IM}  (h : f_Mch_setCode x0 x1 x2 x3 I = some r) (o0 : b < x0 ∨ x0 + 14 ≤ b) : r b = I b := by
  unfold f_Mch_setCode at h
  have F : I b = I b := rfl
  refine em_t (c := x1 < 0) (fun q1 => ?_) (fun q1 => ?_)
  · replace h := ite_t h q1
    exact (fsb_Mch_setCode_24 o0  h).trans F
  · replace h := ite_f h q1
    refine em_t (c := (64 : Int32) ≤ x1) (fun q2 => ?_) (fun q2 => ?_)
    · replace h := ite_t h q2
      exact (fsb_Mch_setCode_24 o0  h).trans F
    · replace h := ite_f h q2
      obtain ⟨c3, h⟩ := chk_e h
      obtain ⟨I4, hI4, h⟩ := lt_x h
      replace F := (show I4 b = _ from by first | exact fr_up hI4 (by first | omega | (intro e; subst e; revert o0; decide)) | exact fr_fil hI4 (by omega) | exact fr_cpy hI4 (by omega)).trans F
      obtain ⟨I5, hI5, h⟩ := lt_x h
      replace F := (show I5 b = _ from by first | exact fr_up hI5 (by first | omega | (intro e; subst e; revert o0; decide)) | exact fr_fil hI5 (by omega) | exact fr_cpy hI5 (by omega)).trans F
      exact (fsb_Mch_setCode_24 o0  h).trans F
set_option maxRecDepth 20000 in
set_option maxHeartbeats 4000000 in
theorem fsb_Mch_setWord_30 {x0 : Nat} {b : Nat} {r : IM} (o0 : b < x0 ∨ x0 + 14 ≤ b)   {I : IM} (h : b_Mch_setWord_30 x0   I = some r) : r b = I b := by
  unfold b_Mch_setWord_30 at h
  have F : I b = I b := rfl
  cases h
  exact F
set_option maxRecDepth 20000 in
set_option maxHeartbeats 4000000 in
theorem fsr_Mch_setWord {x0 : Nat} {x1 : Int32} {x2 : Int32} {x3 : Int32} {x4 : Int32} {I : IM} {b : Nat} {r : IM}  (h : f_Mch_setWord x0 x1 x2 x3 x4 I = some r) (o0 : b < x0 ∨ x0 + 14 ≤ b) : r b = I b := by
  unfold f_Mch_setWord at h
  have F : I b = I b := rfl
  obtain ⟨v1, e2, h⟩ := bnd_e h
  refine em_t (c := v1 = 0) (fun q3 => ?_) (fun q3 => ?_)
  · replace h := ite_t h q3
    exact (fsb_Mch_setWord_30 o0  h).trans F
  · replace h := ite_f h q3
    obtain ⟨c4, h⟩ := chk_e h
    obtain ⟨I5, hI5, h⟩ := lt_x h
    replace F := (show I5 b = _ from by first | exact fr_up hI5 (by first | omega | (intro e; subst e; revert o0; decide)) | exact fr_fil hI5 (by omega) | exact fr_cpy hI5 (by omega)).trans F
    obtain ⟨I6, hI6, h⟩ := lt_x h
    replace F := (show I6 b = _ from by first | exact fr_up hI6 (by first | omega | (intro e; subst e; revert o0; decide)) | exact fr_fil hI6 (by omega) | exact fr_cpy hI6 (by omega)).trans F
    obtain ⟨I7, hI7, h⟩ := lt_x h
    replace F := (show I7 b = _ from by first | exact fr_up hI7 (by first | omega | (intro e; subst e; revert o0; decide)) | exact fr_fil hI7 (by omega) | exact fr_cpy hI7 (by omega)).trans F
    exact (fsb_Mch_setWord_30 o0  h).trans F
set_option maxRecDepth 20000 in
set_option maxHeartbeats 4000000 in
theorem fsb_Mch_setRegister_24 {x0 : Nat} {b : Nat} {r : IM} (o0 : b < x0 ∨ x0 + 14 ≤ b)   {I : IM} (h : b_Mch_setRegister_24 x0   I = some r) : r b = I b := by
  unfold b_Mch_setRegister_24 at h
  have F : I b = I b := rfl
  cases h
  exact F
set_option maxRecDepth 20000 in
set_option maxHeartbeats 4000000 in
theorem fsr_Mch_setRegister {x0 : Nat} {x1 : Int32} {x2 : Int32} {x3 : Int32} {I : IM} {b : Nat} {r : IM}  (h : f_Mch_setRegister x0 x1 x2 x3 I = some r) (o0 : b < x0 ∨ x0 + 14 ≤ b) : r b = I b := by
  unfold f_Mch_setRegister at h
  have F : I b = I b := rfl
  refine em_t (c := x1 < 0) (fun q1 => ?_) (fun q1 => ?_)
  · replace h := ite_t h q1
    exact (fsb_Mch_setRegister_24 o0  h).trans F
  · replace h := ite_f h q1
    refine em_t (c := (8 : Int32) < x1) (fun q2 => ?_) (fun q2 => ?_)
    · replace h := ite_t h q2
      exact (fsb_Mch_setRegister_24 o0  h).trans F
    · replace h := ite_f h q2
      obtain ⟨c3, h⟩ := chk_e h
      obtain ⟨I4, hI4, h⟩ := lt_x h
      replace F := (show I4 b = _ from by first | exact fr_up hI4 (by first | omega | (intro e; subst e; revert o0; decide)) | exact fr_fil hI4 (by omega) | exact fr_cpy hI4 (by omega)).trans F
      obtain ⟨I5, hI5, h⟩ := lt_x h
      replace F := (show I5 b = _ from by first | exact fr_up hI5 (by first | omega | (intro e; subst e; revert o0; decide)) | exact fr_fil hI5 (by omega) | exact fr_cpy hI5 (by omega)).trans F
      exact (fsb_Mch_setRegister_24 o0  h).trans F
set_option maxRecDepth 20000 in
set_option maxHeartbeats 4000000 in
theorem fsb_Mch_addInput_40 {x0 : Nat} {b : Nat} {r : IM} (o0 : b < x0 ∨ x0 + 14 ≤ b)   {I : IM} (h : b_Mch_addInput_40 x0   I = some r) : r b = I b := by
  unfold b_Mch_addInput_40 at h
  have F : I b = I b := rfl
  cases h
  exact F
set_option maxRecDepth 20000 in
set_option maxHeartbeats 4000000 in
theorem fsr_Mch_addInput {x0 : Nat} {x1 : Int32} {x2 : Int32} {I : IM} {b : Nat} {r : IM}  (h : f_Mch_addInput x0 x1 x2 I = some r) (o0 : b < x0 ∨ x0 + 14 ≤ b) : r b = I b := by
  unfold f_Mch_addInput at h
  have F : I b = I b := rfl
  refine em_t (c := (I (x0 + 13) (5 : Int32).toNatClampNeg : Int32) < 0) (fun q1 => ?_) (fun q1 => ?_)
  · replace h := ite_t h q1
    exact (fsb_Mch_addInput_40 o0  h).trans F
  · replace h := ite_f h q1
    refine em_t (c := (16 : Int32) ≤ (I (x0 + 13) (5 : Int32).toNatClampNeg : Int32)) (fun q2 => ?_) (fun q2 => ?_)
    · replace h := ite_t h q2
      exact (fsb_Mch_addInput_40 o0  h).trans F
    · replace h := ite_f h q2
      obtain ⟨c3, h⟩ := chk_e h
      obtain ⟨I4, hI4, h⟩ := lt_x h
      replace F := (show I4 b = _ from by first | exact fr_up hI4 (by first | omega | (intro e; subst e; revert o0; decide)) | exact fr_fil hI4 (by omega) | exact fr_cpy hI4 (by omega)).trans F
      obtain ⟨I5, hI5, h⟩ := lt_x h
      replace F := (show I5 b = _ from by first | exact fr_up hI5 (by first | omega | (intro e; subst e; revert o0; decide)) | exact fr_fil hI5 (by omega) | exact fr_cpy hI5 (by omega)).trans F
      obtain ⟨I6, hI6, h⟩ := lt_x h
      replace F := (show I6 b = _ from by first | exact fr_up hI6 (by first | omega | (intro e; subst e; revert o0; decide)) | exact fr_fil hI6 (by omega) | exact fr_cpy hI6 (by omega)).trans F
      exact (fsb_Mch_addInput_40 o0  h).trans F
set_option maxRecDepth 20000 in
set_option maxHeartbeats 4000000 in
theorem fsr_Img_readClear {it : Nat} {I : IM} {b : Nat} {r : Int32 × IM}  (h : f_Img_readClear it I = some r) (o0 : b < it ∨ it + 14 ≤ b) (o1 : b < 1 ∨ 1 + 6 ≤ b) (o2 : b < 15 ∨ 15 + 1 ≤ b) : r.2 b = I b := by
  unfold f_Img_readClear at h
  have F : I b = I b := rfl
  obtain ⟨v1, e2, h⟩ := bnd_e h
  replace F := (fr_Rdr_advance e2 (by first | omega | exact outA o0 (by decide))).trans F
  obtain ⟨v3, e4, h⟩ := bnd_e h
  replace F := (fr_Img_readAny e4 (by first | omega | exact outA o0 (by decide)) (by first | omega | exact outA o0 (by decide))).trans F
  refine em_f (c := (v3.1 : Int32) = 0) (fun q5 => ?_) (fun q5 => ?_)
  · replace h := ite_f h q5
    obtain ⟨I6, hI6, h⟩ := lt_x h
    replace F := (show I6 b = _ from by first | exact fr_up hI6 (by first | omega | (intro e; subst e; revert o0; decide)) | exact fr_fil hI6 (by omega) | exact fr_cpy hI6 (by omega)).trans F
    obtain ⟨v7, e8, h⟩ := bnd_e h
    replace F := (fr_Rdr_take e8 (by first | omega | exact outA o0 (by decide))).trans F
    obtain ⟨c9, h⟩ := chk_e h
    cases h
    exact F
  · replace h := ite_t h q5
    cases h
    exact F
set_option maxRecDepth 20000 in
set_option maxHeartbeats 4000000 in
theorem fsb_Img_readInstruction_16 {n : Nat} {it : Nat} {b : Nat} {r : Int32 × IM} (o0 : b < 15 ∨ 15 + 1 ≤ b) (o1 : b < 1 ∨ 1 + 6 ≤ b) (o2 : b < it ∨ it + 14 ≤ b)   {I : IM} (h : b_Img_readInstruction_16 n it   I = some r) : r.2 b = I b := by
  unfold b_Img_readInstruction_16 at h
  have F : I b = I b := rfl
  cases h
  exact F
set_option maxRecDepth 20000 in
set_option maxHeartbeats 4000000 in
theorem fsb_Img_readInstruction_128 {n : Nat} {it : Nat} {b : Nat} {r : Int32 × IM} (o0 : b < 15 ∨ 15 + 1 ≤ b) (o1 : b < 1 ∨ 1 + 6 ≤ b) (o2 : b < it ∨ it + 14 ≤ b) {H35 : Int32 → Int32 → Int32 → Int32 → IM → Option (Int32 × IM)} (hH35 : ∀ (x2 : Int32) (x3 : Int32) (x4 : Int32) (x5 : Int32) (I : IM), H35 x2 x3 x4 x5 I = some r → r.2 b = I b) {x2 : Int32} {x3 : Int32} {x4 : Int32} {x5 : Int32} {I : IM} (h : b_Img_readInstruction_128 n it H35 x2 x3 x4 x5 I = some r) : r.2 b = I b := by
  unfold b_Img_readInstruction_128 at h
  have F : I b = I b := rfl
  exact (hH35 _ _ _ _ _ h).trans F
set_option maxRecDepth 20000 in
set_option maxHeartbeats 4000000 in
theorem fsb_Img_readInstruction_134 {n : Nat} {it : Nat} {b : Nat} {r : Int32 × IM} (o0 : b < 15 ∨ 15 + 1 ≤ b) (o1 : b < 1 ∨ 1 + 6 ≤ b) (o2 : b < it ∨ it + 14 ≤ b)  {x2 : Int32} {x3 : Int32} {I : IM} (h : b_Img_readInstruction_134 n it  x2 x3 I = some r) : r.2 b = I b := by
  unfold b_Img_readInstruction_134 at h
  have F : I b = I b := rfl
  obtain ⟨v18, e19, h⟩ := bnd_e h
  replace F := (fsr_Mch_setCode e19 (by first | omega | exact outA o0 (by decide))).trans F
  obtain ⟨I20, hI20, h⟩ := lt_x h
  replace F := (show I20 b = _ from by first | exact fr_up hI20 (by first | omega | (intro e; subst e; revert o0; decide)) | exact fr_fil hI20 (by omega) | exact fr_cpy hI20 (by omega)).trans F
  cases h
  exact F
set_option maxRecDepth 20000 in
set_option maxHeartbeats 4000000 in
theorem fsl_Img_readInstruction_35 {n : Nat} {it : Nat} {b : Nat} {r : Int32 × IM} (o0 : b < 15 ∨ 15 + 1 ≤ b) (o1 : b < 1 ∨ 1 + 6 ≤ b) (o2 : b < it ∨ it + 14 ≤ b)  : ∀ (f : Nat) (x2 : Int32) (x3 : Int32) (x4 : Int32) (x5 : Int32) (I : IM), l_Img_readInstruction_35 n it  f x2 x3 x4 x5 I = some r → r.2 b = I b
  | 0, _, _, _, _, _, h => by cases h
  | f + 1, x2, x3, x4, x5, I, h => by
    have ih := fsl_Img_readInstruction_35 (b := b) (r := r) (n := n) (it := it)  o0 o1 o2 f
    rw [l_Img_readInstruction_35] at h
    have F : I b = I b := rfl
    refine em_t (c := (900 : Int32) ≤ x5) (fun q5 => ?_) (fun q5 => ?_)
    · replace h := ite_t h q5
      exact (fsb_Img_readInstruction_134 o0 o1 o2  h).trans F
    · replace h := ite_f h q5
      obtain ⟨v6, e7, h⟩ := bnd_e h
      refine em_t (c := v6 = 0) (fun q8 => ?_) (fun q8 => ?_)
      · replace h := ite_t h q8
        exact (fsb_Img_readInstruction_134 o0 o1 o2  h).trans F
      · replace h := ite_f h q8
        refine em_t (c := (x4 &&& v6 : Int32) = 0) (fun q9 => ?_) (fun q9 => ?_)
        · replace h := ite_t h q9
          obtain ⟨v10, e11, h⟩ := bnd_e h
          replace F := (fr_Rdr_advance e11 (by first | omega | exact outA o0 (by decide))).trans F
          obtain ⟨v12, e13, h⟩ := bnd_e h
          replace F := (fr_Img_readFieldNumber e13 (by first | omega | exact outA o0 (by decide)) (by first | omega | exact outA o0 (by decide))).trans F
          refine em_f (c := (v12.1 : Int32) = 0) (fun q14 => ?_) (fun q14 => ?_)
          · replace h := ite_f h q14
            refine em_f (c := (I 1 1 : Int32) = (42 : Int32)) (fun q15 => ?_) (fun q15 => ?_)
            · replace h := ite_f h q15
              obtain ⟨v16, e17, h⟩ := bnd_e h
              exact (fsb_Img_readInstruction_128 o0 o1 o2 ih h).trans F
            · replace h := ite_t h q15
              exact (fsb_Img_readInstruction_128 o0 o1 o2 ih h).trans F
          · replace h := ite_t h q14
            cases h
            exact F
        · replace h := ite_f h q9
          exact (fsb_Img_readInstruction_134 o0 o1 o2  h).trans F
set_option maxRecDepth 20000 in
set_option maxHeartbeats 4000000 in
theorem fsr_Img_readInstruction {n : Nat} {it : Nat} {x1 : Int32} {I : IM} {b : Nat} {r : Int32 × IM}  (h : f_Img_readInstruction n it x1 I = some r) (o0 : b < 15 ∨ 15 + 1 ≤ b) (o1 : b < 1 ∨ 1 + 6 ≤ b) (o2 : b < it ∨ it + 14 ≤ b) : r.2 b = I b := by
  unfold f_Img_readInstruction at h
  have F : I b = I b := rfl
  refine em_t (c := (I 15 2 : Int32) < 0) (fun q1 => ?_) (fun q1 => ?_)
  · replace h := ite_t h q1
    exact (fsb_Img_readInstruction_16 o0 o1 o2  h).trans F
  · replace h := ite_f h q1
    refine em_t (c := (I 15 2 : Int32) < (64 : Int32)) (fun q2 => ?_) (fun q2 => ?_)
    · replace h := ite_t h q2
      obtain ⟨v3, e4, h⟩ := bnd_e h
      replace F := (fr_Rdr_advance e4 (by first | omega | exact outA o0 (by decide))).trans F
      exact (fsl_Img_readInstruction_35 o0 o1 o2  _ _ _ _ _ _ h).trans F
    · replace h := ite_f h q2
      exact (fsb_Img_readInstruction_16 o0 o1 o2  h).trans F
set_option maxRecDepth 20000 in
set_option maxHeartbeats 4000000 in
theorem fsr_Img_readWordLine {it : Nat} {I : IM} {b : Nat} {r : Int32 × IM}  (h : f_Img_readWordLine it I = some r) (o0 : b < 1 ∨ 1 + 6 ≤ b) (o1 : b < 15 ∨ 15 + 1 ≤ b) (o2 : b < it ∨ it + 14 ≤ b) : r.2 b = I b := by
  unfold f_Img_readWordLine at h
  have F : I b = I b := rfl
  obtain ⟨v1, e2, h⟩ := bnd_e h
  replace F := (fr_Rdr_advance e2 (by first | omega | exact outA o0 (by decide))).trans F
  obtain ⟨v3, e4, h⟩ := bnd_e h
  replace F := (fr_Img_readNumber e4 (by first | omega | exact outA o0 (by decide)) (by first | omega | exact outA o0 (by decide))).trans F
  refine em_f (c := (v3.1 : Int32) = 0) (fun q5 => ?_) (fun q5 => ?_)
  · replace h := ite_f h q5
    obtain ⟨v6, e7, h⟩ := bnd_e h
    replace F := (fr_Img_readAny e7 (by first | omega | exact outA o0 (by decide)) (by first | omega | exact outA o0 (by decide))).trans F
    refine em_f (c := (v6.1 : Int32) = 0) (fun q8 => ?_) (fun q8 => ?_)
    · replace h := ite_f h q8
      obtain ⟨v9, e10, h⟩ := bnd_e h
      replace F := (fr_Img_readOptional e10 (by first | omega | exact outA o0 (by decide)) (by first | omega | exact outA o0 (by decide))).trans F
      refine em_f (c := (v9.1 : Int32) = 0) (fun q11 => ?_) (fun q11 => ?_)
      · replace h := ite_f h q11
        obtain ⟨v12, e13, h⟩ := bnd_e h
        replace F := (fr_Img_readOptional e13 (by first | omega | exact outA o0 (by decide)) (by first | omega | exact outA o0 (by decide))).trans F
        refine em_f (c := (v12.1 : Int32) = 0) (fun q14 => ?_) (fun q14 => ?_)
        · replace h := ite_f h q14
          obtain ⟨v15, e16, h⟩ := bnd_e h
          replace F := (fsr_Mch_setWord e16 (by first | omega | exact outA o0 (by decide))).trans F
          cases h
          exact F
        · replace h := ite_t h q14
          cases h
          exact F
      · replace h := ite_t h q11
        cases h
        exact F
    · replace h := ite_t h q8
      cases h
      exact F
  · replace h := ite_t h q5
    cases h
    exact F
set_option maxRecDepth 20000 in
set_option maxHeartbeats 4000000 in
theorem fsr_Img_readRegister {it : Nat} {I : IM} {b : Nat} {r : Int32 × IM}  (h : f_Img_readRegister it I = some r) (o0 : b < 1 ∨ 1 + 6 ≤ b) (o1 : b < 15 ∨ 15 + 1 ≤ b) (o2 : b < it ∨ it + 14 ≤ b) : r.2 b = I b := by
  unfold f_Img_readRegister at h
  have F : I b = I b := rfl
  obtain ⟨v1, e2, h⟩ := bnd_e h
  replace F := (fr_Rdr_advance e2 (by first | omega | exact outA o0 (by decide))).trans F
  obtain ⟨v3, e4, h⟩ := bnd_e h
  replace F := (fr_Img_readNumber e4 (by first | omega | exact outA o0 (by decide)) (by first | omega | exact outA o0 (by decide))).trans F
  refine em_f (c := (v3.1 : Int32) = 0) (fun q5 => ?_) (fun q5 => ?_)
  · replace h := ite_f h q5
    obtain ⟨v6, e7, h⟩ := bnd_e h
    replace F := (fr_Img_readAny e7 (by first | omega | exact outA o0 (by decide)) (by first | omega | exact outA o0 (by decide))).trans F
    refine em_f (c := (v6.1 : Int32) = 0) (fun q8 => ?_) (fun q8 => ?_)
    · replace h := ite_f h q8
      obtain ⟨v9, e10, h⟩ := bnd_e h
      replace F := (fr_Img_readOptional e10 (by first | omega | exact outA o0 (by decide)) (by first | omega | exact outA o0 (by decide))).trans F
      refine em_f (c := (v9.1 : Int32) = 0) (fun q11 => ?_) (fun q11 => ?_)
      · replace h := ite_f h q11
        obtain ⟨v12, e13, h⟩ := bnd_e h
        replace F := (fsr_Mch_setRegister e13 (by first | omega | exact outA o0 (by decide))).trans F
        cases h
        exact F
      · replace h := ite_t h q11
        cases h
        exact F
    · replace h := ite_t h q8
      cases h
      exact F
  · replace h := ite_t h q5
    cases h
    exact F
set_option maxRecDepth 20000 in
set_option maxHeartbeats 4000000 in
theorem fsr_Img_readInput {it : Nat} {I : IM} {b : Nat} {r : Int32 × IM}  (h : f_Img_readInput it I = some r) (o0 : b < 1 ∨ 1 + 6 ≤ b) (o1 : b < 15 ∨ 15 + 1 ≤ b) (o2 : b < it ∨ it + 14 ≤ b) : r.2 b = I b := by
  unfold f_Img_readInput at h
  have F : I b = I b := rfl
  refine em_t (c := (I (it + 13) (5 : Int32).toNatClampNeg : Int32) < (16 : Int32)) (fun q1 => ?_) (fun q1 => ?_)
  · replace h := ite_t h q1
    obtain ⟨v2, e3, h⟩ := bnd_e h
    replace F := (fr_Rdr_advance e3 (by first | omega | exact outA o0 (by decide))).trans F
    obtain ⟨v4, e5, h⟩ := bnd_e h
    replace F := (fr_Img_readAny e5 (by first | omega | exact outA o0 (by decide)) (by first | omega | exact outA o0 (by decide))).trans F
    refine em_f (c := (v4.1 : Int32) = 0) (fun q6 => ?_) (fun q6 => ?_)
    · replace h := ite_f h q6
      obtain ⟨v7, e8, h⟩ := bnd_e h
      replace F := (fr_Img_readOptional e8 (by first | omega | exact outA o0 (by decide)) (by first | omega | exact outA o0 (by decide))).trans F
      refine em_f (c := (v7.1 : Int32) = 0) (fun q9 => ?_) (fun q9 => ?_)
      · replace h := ite_f h q9
        obtain ⟨v10, e11, h⟩ := bnd_e h
        replace F := (fsr_Mch_addInput e11 (by first | omega | exact outA o0 (by decide))).trans F
        cases h
        exact F
      · replace h := ite_t h q9
        cases h
        exact F
    · replace h := ite_t h q6
      cases h
      exact F
  · replace h := ite_f h q1
    cases h
    exact F
set_option maxRecDepth 20000 in
set_option maxHeartbeats 4000000 in
theorem fsr_Img_readLine {n : Nat} {it : Nat} {I : IM} {b : Nat} {r : Int32 × IM}  (h : f_Img_readLine n it I = some r) (o0 : b < 15 ∨ 15 + 1 ≤ b) (o1 : b < 1 ∨ 1 + 6 ≤ b) (o2 : b < it ∨ it + 14 ≤ b) : r.2 b = I b := by
  unfold f_Img_readLine at h
  have F : I b = I b := rfl
  refine em_t (c := (22 : Int32) ≤ (I 1 1 : Int32)) (fun q1 => ?_) (fun q1 => ?_)
  · replace h := ite_t h q1
    refine em_t (c := (I 1 1 : Int32) = 45) (fun q3 => ?_) (fun q3 => ?_)
    · replace h := ite_t h q3
      obtain ⟨v4, e5, h⟩ := bnd_e h
      replace F := (fr_Img_readAt e5 (by first | omega | exact outA o0 (by decide)) (by first | omega | exact outA o0 (by decide))).trans F
      obtain ⟨c6, h⟩ := chk_e h
      cases h
      exact F
    · replace h := ite_f h q3
      refine em_t (c := (I 1 1 : Int32) = 46) (fun q7 => ?_) (fun q7 => ?_)
      · replace h := ite_t h q7
        obtain ⟨v8, e9, h⟩ := bnd_e h
        replace F := (fsr_Img_readWordLine e9 (by first | omega | exact outA o0 (by decide)) (by first | omega | exact outA o0 (by decide)) (by first | omega | exact outA o0 (by decide))).trans F
        obtain ⟨c10, h⟩ := chk_e h
        cases h
        exact F
      · replace h := ite_f h q7
        refine em_t (c := (I 1 1 : Int32) = 47) (fun q11 => ?_) (fun q11 => ?_)
        · replace h := ite_t h q11
          obtain ⟨v12, e13, h⟩ := bnd_e h
          replace F := (fsr_Img_readRegister e13 (by first | omega | exact outA o0 (by decide)) (by first | omega | exact outA o0 (by decide)) (by first | omega | exact outA o0 (by decide))).trans F
          obtain ⟨c14, h⟩ := chk_e h
          cases h
          exact F
        · replace h := ite_f h q11
          refine em_t (c := (I 1 1 : Int32) = 48) (fun q15 => ?_) (fun q15 => ?_)
          · replace h := ite_t h q15
            obtain ⟨v16, e17, h⟩ := bnd_e h
            replace F := (fsr_Img_readInput e17 (by first | omega | exact outA o0 (by decide)) (by first | omega | exact outA o0 (by decide)) (by first | omega | exact outA o0 (by decide))).trans F
            obtain ⟨c18, h⟩ := chk_e h
            cases h
            exact F
          · replace h := ite_f h q15
            cases h
            exact F
  · replace h := ite_f h q1
    obtain ⟨v19, e20, h⟩ := bnd_e h
    replace F := (fsr_Img_readInstruction e20 (by first | omega | exact outA o0 (by decide)) (by first | omega | exact outA o0 (by decide)) (by first | omega | exact outA o0 (by decide))).trans F
    obtain ⟨c21, h⟩ := chk_e h
    cases h
    exact F
set_option maxRecDepth 20000 in
set_option maxHeartbeats 4000000 in
theorem fsb_Img_read_100 {n : Nat} {it : Nat} {J : JM} {b : Nat} {r : Int32 × IM} (o0 : b < 15 ∨ 15 + 1 ≤ b) (o1 : b < it ∨ it + 14 ≤ b) (o2 : b < 1 ∨ 1 + 6 ≤ b) {H52 : Int32 → Int32 → IM → Option (Int32 × IM)} (hH52 : ∀ (x1 : Int32) (x2 : Int32) (I : IM), H52 x1 x2 I = some r → r.2 b = I b) {x2 : Int32} {y0 : Int32} {I : IM} (h : b_Img_read_100 n it J H52 x2 y0 I = some r) : r.2 b = I b := by
  unfold b_Img_read_100 at h
  have F : I b = I b := rfl
  exact (hH52 _ _ _ h).trans F
set_option maxRecDepth 20000 in
set_option maxHeartbeats 4000000 in
theorem fsb_Img_read_99 {n : Nat} {it : Nat} {J : JM} {b : Nat} {r : Int32 × IM} (o0 : b < 15 ∨ 15 + 1 ≤ b) (o1 : b < it ∨ it + 14 ≤ b) (o2 : b < 1 ∨ 1 + 6 ≤ b) {H52 : Int32 → Int32 → IM → Option (Int32 × IM)} (hH52 : ∀ (x1 : Int32) (x2 : Int32) (I : IM), H52 x1 x2 I = some r → r.2 b = I b) {x2 : Int32} {I : IM} (h : b_Img_read_99 n it J H52 x2 I = some r) : r.2 b = I b := by
  unfold b_Img_read_99 at h
  have F : I b = I b := rfl
  exact (fsb_Img_read_100 o0 o1 o2 hH52 h).trans F
set_option maxRecDepth 20000 in
set_option maxHeartbeats 4000000 in
theorem fsb_Img_read_147 {n : Nat} {it : Nat} {J : JM} {b : Nat} {r : Int32 × IM} (o0 : b < 15 ∨ 15 + 1 ≤ b) (o1 : b < it ∨ it + 14 ≤ b) (o2 : b < 1 ∨ 1 + 6 ≤ b)  {y0 : Int32} {I : IM} (h : b_Img_read_147 n it J  y0 I = some r) : r.2 b = I b := by
  unfold b_Img_read_147 at h
  have F : I b = I b := rfl
  cases h
  exact F
set_option maxRecDepth 20000 in
set_option maxHeartbeats 4000000 in
theorem fsb_Img_read_125 {n : Nat} {it : Nat} {J : JM} {b : Nat} {r : Int32 × IM} (o0 : b < 15 ∨ 15 + 1 ≤ b) (o1 : b < it ∨ it + 14 ≤ b) (o2 : b < 1 ∨ 1 + 6 ≤ b)   {I : IM} (h : b_Img_read_125 n it J   I = some r) : r.2 b = I b := by
  unfold b_Img_read_125 at h
  have F : I b = I b := rfl
  refine em_f (c := (I 15 4 : Int32) = ((-1) : Int32)) (fun q22 => ?_) (fun q22 => ?_)
  · replace h := ite_f h q22
    exact (fsb_Img_read_147 o0 o1 o2  h).trans F
  · replace h := ite_t h q22
    exact (fsb_Img_read_147 o0 o1 o2  h).trans F
set_option maxRecDepth 20000 in
set_option maxHeartbeats 4000000 in
theorem fsb_Img_read_107 {n : Nat} {it : Nat} {J : JM} {b : Nat} {r : Int32 × IM} (o0 : b < 15 ∨ 15 + 1 ≤ b) (o1 : b < it ∨ it + 14 ≤ b) (o2 : b < 1 ∨ 1 + 6 ≤ b)  {x1 : Int32} {I : IM} (h : b_Img_read_107 n it J  x1 I = some r) : r.2 b = I b := by
  unfold b_Img_read_107 at h
  have F : I b = I b := rfl
  refine em_t (c := x1 = 0) (fun q20 => ?_) (fun q20 => ?_)
  · replace h := ite_t h q20
    exact (fsb_Img_read_125 o0 o1 o2  h).trans F
  · replace h := ite_f h q20
    refine em_f (c := (I 1 1 : Int32) = (100 : Int32)) (fun q21 => ?_) (fun q21 => ?_)
    · replace h := ite_f h q21
      exact (fsb_Img_read_125 o0 o1 o2  h).trans F
    · replace h := ite_t h q21
      cases h
      exact F
set_option maxRecDepth 20000 in
set_option maxHeartbeats 4000000 in
theorem fsl_Img_read_52 {n : Nat} {it : Nat} {J : JM} {b : Nat} {r : Int32 × IM} (o0 : b < 15 ∨ 15 + 1 ≤ b) (o1 : b < it ∨ it + 14 ≤ b) (o2 : b < 1 ∨ 1 + 6 ≤ b)  : ∀ (f : Nat) (x1 : Int32) (x2 : Int32) (I : IM), l_Img_read_52 n it J  f x1 x2 I = some r → r.2 b = I b
  | 0, _, _, _, h => by cases h
  | f + 1, x1, x2, I, h => by
    have ih := fsl_Img_read_52 (b := b) (r := r) (n := n) (it := it) (J := J) o0 o1 o2 f
    rw [l_Img_read_52] at h
    have F : I b = I b := rfl
    refine em_t (c := (900 : Int32) ≤ x2) (fun q11 => ?_) (fun q11 => ?_)
    · replace h := ite_t h q11
      exact (fsb_Img_read_107 o0 o1 o2  h).trans F
    · replace h := ite_f h q11
      refine em_t (c := x1 = 0) (fun q12 => ?_) (fun q12 => ?_)
      · replace h := ite_t h q12
        exact (fsb_Img_read_107 o0 o1 o2  h).trans F
      · replace h := ite_f h q12
        refine em_t (c := (I 1 1 : Int32) = (100 : Int32)) (fun q13 => ?_) (fun q13 => ?_)
        · replace h := ite_t h q13
          exact (fsb_Img_read_107 o0 o1 o2  h).trans F
        · replace h := ite_f h q13
          obtain ⟨v14, e15, h⟩ := bnd_e h
          replace F := (fsr_Img_readLine e15 (by first | omega | exact outA o0 (by decide)) (by first | omega | exact outA o0 (by decide)) (by first | omega | exact outA o0 (by decide))).trans F
          refine em_t (c := (v14.1 : Int32) = 0) (fun q16 => ?_) (fun q16 => ?_)
          · replace h := ite_t h q16
            exact (fsb_Img_read_99 o0 o1 o2 ih h).trans F
          · replace h := ite_f h q16
            obtain ⟨v17, e18, h⟩ := bnd_e h
            replace F := (fr_Rdr_take e18 (by first | omega | exact outA o0 (by decide))).trans F
            exact (ih _ _ _ h).trans F
set_option maxRecDepth 20000 in
set_option maxHeartbeats 4000000 in
theorem fsb_Img_read_49 {n : Nat} {it : Nat} {J : JM} {b : Nat} {r : Int32 × IM} (o0 : b < 15 ∨ 15 + 1 ≤ b) (o1 : b < it ∨ it + 14 ≤ b) (o2 : b < 1 ∨ 1 + 6 ≤ b)  {y0 : Int32} {I : IM} (h : b_Img_read_49 n it J  y0 I = some r) : r.2 b = I b := by
  unfold b_Img_read_49 at h
  have F : I b = I b := rfl
  exact (fsl_Img_read_52 o0 o1 o2  _ _ _ _ h).trans F
set_option maxRecDepth 20000 in
set_option maxHeartbeats 4000000 in
theorem fsb_Img_read_44 {n : Nat} {it : Nat} {J : JM} {b : Nat} {r : Int32 × IM} (o0 : b < 15 ∨ 15 + 1 ≤ b) (o1 : b < it ∨ it + 14 ≤ b) (o2 : b < 1 ∨ 1 + 6 ≤ b)   {I : IM} (h : b_Img_read_44 n it J   I = some r) : r.2 b = I b := by
  unfold b_Img_read_44 at h
  have F : I b = I b := rfl
  exact (fsb_Img_read_49 o0 o1 o2  h).trans F
