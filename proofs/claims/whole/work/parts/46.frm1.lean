/-! frames of the class -/
set_option maxRecDepth 20000 in
set_option maxHeartbeats 4000000 in
theorem fb_Rdr_append_44 {b : Nat} {r : IM} (o0 : b < 1 ∨ 1 + 6 ≤ b)   {I : IM} (h : b_Rdr_append_44    I = some r) : r b = I b := by
  unfold b_Rdr_append_44 at h
  have F : I b = I b := rfl
  cases h
  exact F
set_option maxRecDepth 20000 in
set_option maxHeartbeats 4000000 in
theorem fr_Rdr_append {x1 : Int32} {I : IM} {b : Nat} {r : IM}  (h : f_Rdr_append x1 I = some r) (o0 : b < 1 ∨ 1 + 6 ≤ b) : r b = I b := by
  unfold f_Rdr_append at h
  have F : I b = I b := rfl
  refine em_t (c := x1 = 0) (fun q1 => ?_) (fun q1 => ?_)
  · replace h := ite_t h q1
    exact (fb_Rdr_append_44 o0  h).trans F
  · replace h := ite_f h q1
    refine em_t (c := (I 1 0 : Int32) < 0) (fun q2 => ?_) (fun q2 => ?_)
    · replace h := ite_t h q2
      exact (fb_Rdr_append_44 o0  h).trans F
    · replace h := ite_f h q2
      refine em_t (c := (900 : Int32) ≤ (I 1 0 : Int32)) (fun q3 => ?_) (fun q3 => ?_)
      · replace h := ite_t h q3
        exact (fb_Rdr_append_44 o0  h).trans F
      · replace h := ite_f h q3
        obtain ⟨c4, h⟩ := chk_e h
        obtain ⟨I5, hI5, h⟩ := lt_x h
        replace F := (show I5 b = _ from by first | exact fr_up hI5 (by first | omega | (intro e; subst e; revert o0; decide)) | exact fr_fil hI5 (by omega) | exact fr_cpy hI5 (by omega)).trans F
        obtain ⟨I6, hI6, h⟩ := lt_x h
        replace F := (show I6 b = _ from by first | exact fr_up hI6 (by first | omega | (intro e; subst e; revert o0; decide)) | exact fr_fil hI6 (by omega) | exact fr_cpy hI6 (by omega)).trans F
        exact (fb_Rdr_append_44 o0  h).trans F
set_option maxRecDepth 20000 in
set_option maxHeartbeats 4000000 in
theorem fb_Eng_put_42 {n : Nat} {b : Nat} {r : Int32 × IM} (o0 : b < 1 ∨ 1 + 6 ≤ b) {H4 : Int32 → Int32 → Int32 → IM → Option (Int32 × IM)} (hH4 : ∀ (x1 : Int32) (x2 : Int32) (x3 : Int32) (I : IM), H4 x1 x2 x3 I = some r → r.2 b = I b) {x1 : Int32} {x2 : Int32} {x3 : Int32} {x4 : Int32} {I : IM} (h : b_Eng_put_42 n H4 x1 x2 x3 x4 I = some r) : r.2 b = I b := by
  unfold b_Eng_put_42 at h
  have F : I b = I b := rfl
  exact (hH4 _ _ _ _ h).trans F
set_option maxRecDepth 20000 in
set_option maxHeartbeats 4000000 in
theorem fl_Eng_put_88 {n : Nat} {b : Nat} {r : Int32 × IM} (o0 : b < 1 ∨ 1 + 6 ≤ b)  : ∀ (f : Nat) (x1 : Int32) (x3 : Int32) (I : IM), l_Eng_put_88 n  f x1 x3 I = some r → r.2 b = I b
  | 0, _, _, _, h => by cases h
  | f + 1, x1, x3, I, h => by
    have ih := fl_Eng_put_88 (b := b) (r := r) (n := n)   o0 f
    rw [l_Eng_put_88] at h
    have F : I b = I b := rfl
    refine em_t (c := (32 : Int32) ≤ x3) (fun q8 => ?_) (fun q8 => ?_)
    · replace h := ite_t h q8
      cases h
      exact F
    · replace h := ite_f h q8
      obtain ⟨v9, e10, h⟩ := bnd_e h
      replace F := (fr_Rdr_append e10 (by first | omega | exact outA o0 (by decide))).trans F
      exact (ih _ _ _ h).trans F
set_option maxRecDepth 20000 in
set_option maxHeartbeats 4000000 in
theorem fl_Eng_put_4 {n : Nat} {b : Nat} {r : Int32 × IM} (o0 : b < 1 ∨ 1 + 6 ≤ b)  : ∀ (f : Nat) (x1 : Int32) (x2 : Int32) (x3 : Int32) (I : IM), l_Eng_put_4 n  f x1 x2 x3 I = some r → r.2 b = I b
  | 0, _, _, _, _, h => by cases h
  | f + 1, x1, x2, x3, I, h => by
    have ih := fl_Eng_put_4 (b := b) (r := r) (n := n)   o0 f
    rw [l_Eng_put_4] at h
    have F : I b = I b := rfl
    refine em_t (c := (32 : Int32) ≤ x3) (fun q1 => ?_) (fun q1 => ?_)
    · replace h := ite_t h q1
      refine em_t (c := ((I 1 0) + x2 : Int32) ≤ (900 : Int32)) (fun q2 => ?_) (fun q2 => ?_)
      · replace h := ite_t h q2
        exact (fl_Eng_put_88 o0  _ _ _ _ h).trans F
      · replace h := ite_f h q2
        cases h
    · replace h := ite_f h q1
      refine em_t (c := (((x1 : Int32) >>> ((x3 : Int32) &&& 31)) &&& 255 : Int32) = 0) (fun q3 => ?_) (fun q3 => ?_)
      · replace h := ite_t h q3
        exact (fb_Eng_put_42 o0 ih h).trans F
      · replace h := ite_f h q3
        obtain ⟨v4, e5, h⟩ := bnd_e h
        refine em_f (c := v4 = 0) (fun q6 => ?_) (fun q6 => ?_)
        · replace h := ite_f h q6
          exact (fb_Eng_put_42 o0 ih h).trans F
        · replace h := ite_t h q6
          cases h
set_option maxRecDepth 20000 in
set_option maxHeartbeats 4000000 in
theorem fr_Eng_put {n : Nat} {x1 : Int32} {I : IM} {b : Nat} {r : Int32 × IM}  (h : f_Eng_put n x1 I = some r) (o0 : b < 1 ∨ 1 + 6 ≤ b) : r.2 b = I b := by
  unfold f_Eng_put at h
  have F : I b = I b := rfl
  exact (fl_Eng_put_4 o0  _ _ _ _ _ h).trans F
set_option maxRecDepth 20000 in
set_option maxHeartbeats 4000000 in
theorem fb_Eng_end_15 {b : Nat} {r : IM} (o0 : b < 1 ∨ 1 + 6 ≤ b)   {I : IM} (h : b_Eng_end_15    I = some r) : r b = I b := by
  unfold b_Eng_end_15 at h
  have F : I b = I b := rfl
  cases h
set_option maxRecDepth 20000 in
set_option maxHeartbeats 4000000 in
theorem fr_Eng_end {x1 : Int32} {I : IM} {b : Nat} {r : IM}  (h : f_Eng_end x1 I = some r) (o0 : b < 1 ∨ 1 + 6 ≤ b) : r b = I b := by
  unfold f_Eng_end at h
  have F : I b = I b := rfl
  refine em_t (c := x1 < 0) (fun q1 => ?_) (fun q1 => ?_)
  · replace h := ite_t h q1
    exact (fb_Eng_end_15 o0  h).trans F
  · replace h := ite_f h q1
    refine em_t (c := x1 ≤ (I 1 0 : Int32)) (fun q2 => ?_) (fun q2 => ?_)
    · replace h := ite_t h q2
      obtain ⟨I3, hI3, h⟩ := lt_x h
      replace F := (show I3 b = _ from by first | exact fr_up hI3 (by first | omega | (intro e; subst e; revert o0; decide)) | exact fr_fil hI3 (by omega) | exact fr_cpy hI3 (by omega)).trans F
      cases h
      exact F
    · replace h := ite_f h q2
      exact (fb_Eng_end_15 o0  h).trans F
set_option maxRecDepth 20000 in
set_option maxHeartbeats 4000000 in
theorem fr_Rng_empty {x0 : Nat} {I : IM} {b : Nat} {r : IM}  (h : f_Rng_empty x0 I = some r) (o0 : b < x0 ∨ x0 + 2 ≤ b) : r b = I b := by
  unfold f_Rng_empty at h
  have F : I b = I b := rfl
  obtain ⟨I1, hI1, h⟩ := lt_x h
  replace F := (show I1 b = _ from by first | exact fr_up hI1 (by first | omega | (intro e; subst e; revert o0; decide)) | exact fr_fil hI1 (by omega) | exact fr_cpy hI1 (by omega)).trans F
  obtain ⟨I2, hI2, h⟩ := lt_x h
  replace F := (show I2 b = _ from by first | exact fr_up hI2 (by first | omega | (intro e; subst e; revert o0; decide)) | exact fr_fil hI2 (by omega) | exact fr_cpy hI2 (by omega)).trans F
  cases h
  exact F
set_option maxRecDepth 20000 in
set_option maxHeartbeats 4000000 in
theorem fr_Mch_restart {x0 : Nat} {x1 : Int32} {I : IM} {b : Nat} {r : IM}  (h : f_Mch_restart x0 x1 I = some r) (o0 : b < x0 ∨ x0 + 19 ≤ b) : r b = I b := by
  unfold f_Mch_restart at h
  have F : I b = I b := rfl
  obtain ⟨I1, hI1, h⟩ := lt_x h
  replace F := (show I1 b = _ from by first | exact fr_up hI1 (by first | omega | (intro e; subst e; revert o0; decide)) | exact fr_fil hI1 (by omega) | exact fr_cpy hI1 (by omega)).trans F
  obtain ⟨I2, hI2, h⟩ := lt_x h
  replace F := (show I2 b = _ from by first | exact fr_up hI2 (by first | omega | (intro e; subst e; revert o0; decide)) | exact fr_fil hI2 (by omega) | exact fr_cpy hI2 (by omega)).trans F
  obtain ⟨I3, hI3, h⟩ := lt_x h
  replace F := (show I3 b = _ from by first | exact fr_up hI3 (by first | omega | (intro e; subst e; revert o0; decide)) | exact fr_fil hI3 (by omega) | exact fr_cpy hI3 (by omega)).trans F
  obtain ⟨I4, hI4, h⟩ := lt_x h
  replace F := (show I4 b = _ from by first | exact fr_up hI4 (by first | omega | (intro e; subst e; revert o0; decide)) | exact fr_fil hI4 (by omega) | exact fr_cpy hI4 (by omega)).trans F
  obtain ⟨I5, hI5, h⟩ := lt_x h
  replace F := (show I5 b = _ from by first | exact fr_up hI5 (by first | omega | (intro e; subst e; revert o0; decide)) | exact fr_fil hI5 (by omega) | exact fr_cpy hI5 (by omega)).trans F
  obtain ⟨I6, hI6, h⟩ := lt_x h
  replace F := (show I6 b = _ from by first | exact fr_up hI6 (by first | omega | (intro e; subst e; revert o0; decide)) | exact fr_fil hI6 (by omega) | exact fr_cpy hI6 (by omega)).trans F
  obtain ⟨I7, hI7, h⟩ := lt_x h
  replace F := (show I7 b = _ from by first | exact fr_up hI7 (by first | omega | (intro e; subst e; revert o0; decide)) | exact fr_fil hI7 (by omega) | exact fr_cpy hI7 (by omega)).trans F
  obtain ⟨I8, hI8, h⟩ := lt_x h
  replace F := (show I8 b = _ from by first | exact fr_up hI8 (by first | omega | (intro e; subst e; revert o0; decide)) | exact fr_fil hI8 (by omega) | exact fr_cpy hI8 (by omega)).trans F
  obtain ⟨I9, hI9, h⟩ := lt_x h
  replace F := (show I9 b = _ from by first | exact fr_up hI9 (by first | omega | (intro e; subst e; revert o0; decide)) | exact fr_fil hI9 (by omega) | exact fr_cpy hI9 (by omega)).trans F
  obtain ⟨I10, hI10, h⟩ := lt_x h
  replace F := (show I10 b = _ from by first | exact fr_up hI10 (by first | omega | (intro e; subst e; revert o0; decide)) | exact fr_fil hI10 (by omega) | exact fr_cpy hI10 (by omega)).trans F
  obtain ⟨I11, hI11, h⟩ := lt_x h
  replace F := (show I11 b = _ from by first | exact fr_up hI11 (by first | omega | (intro e; subst e; revert o0; decide)) | exact fr_fil hI11 (by omega) | exact fr_cpy hI11 (by omega)).trans F
  obtain ⟨I12, hI12, h⟩ := lt_x h
  replace F := (show I12 b = _ from by first | exact fr_up hI12 (by first | omega | (intro e; subst e; revert o0; decide)) | exact fr_fil hI12 (by omega) | exact fr_cpy hI12 (by omega)).trans F
  obtain ⟨v13, e14, h⟩ := bnd_e h
  replace F := (fr_Rng_empty e14 (by first | omega | exact outA o0 (by decide))).trans F
  obtain ⟨v15, e16, h⟩ := bnd_e h
  replace F := (fr_Rng_empty e16 (by first | omega | exact outA o0 (by decide))).trans F
  cases h
  exact F
set_option maxRecDepth 20000 in
set_option maxHeartbeats 4000000 in
theorem fr_Eng_begin {hd : Nat} {x1 : Int32} {I : IM} {b : Nat} {r : IM}  (h : f_Eng_begin hd x1 I = some r) (o0 : b < hd ∨ hd + 19 ≤ b) : r b = I b := by
  unfold f_Eng_begin at h
  have F : I b = I b := rfl
  obtain ⟨v1, e2, h⟩ := bnd_e h
  replace F := (fr_Mch_restart e2 (by first | omega | exact outA o0 (by decide))).trans F
  cases h
  exact F
set_option maxRecDepth 20000 in
set_option maxHeartbeats 4000000 in
theorem fb_Mch_setCode_24 {x0 : Nat} {b : Nat} {r : IM} (o0 : b < x0 ∨ x0 + 19 ≤ b)   {I : IM} (h : b_Mch_setCode_24 x0   I = some r) : r b = I b := by
  unfold b_Mch_setCode_24 at h
  have F : I b = I b := rfl
  cases h
  exact F
set_option maxRecDepth 20000 in
set_option maxHeartbeats 4000000 in
theorem fr_Mch_setCode {x0 : Nat} {x1 : Int32} {x2 : Int32} {x3 : Int32} {I : IM} {b : Nat} {r : IM}  (h : f_Mch_setCode x0 x1 x2 x3 I = some r) (o0 : b < x0 ∨ x0 + 19 ≤ b) : r b = I b := by
  unfold f_Mch_setCode at h
  have F : I b = I b := rfl
  refine em_t (c := x1 < 0) (fun q1 => ?_) (fun q1 => ?_)
  · replace h := ite_t h q1
    exact (fb_Mch_setCode_24 o0  h).trans F
  · replace h := ite_f h q1
    refine em_t (c := (64 : Int32) ≤ x1) (fun q2 => ?_) (fun q2 => ?_)
    · replace h := ite_t h q2
      exact (fb_Mch_setCode_24 o0  h).trans F
    · replace h := ite_f h q2
      obtain ⟨c3, h⟩ := chk_e h
      obtain ⟨I4, hI4, h⟩ := lt_x h
      replace F := (show I4 b = _ from by first | exact fr_up hI4 (by first | omega | (intro e; subst e; revert o0; decide)) | exact fr_fil hI4 (by omega) | exact fr_cpy hI4 (by omega)).trans F
      obtain ⟨I5, hI5, h⟩ := lt_x h
      replace F := (show I5 b = _ from by first | exact fr_up hI5 (by first | omega | (intro e; subst e; revert o0; decide)) | exact fr_fil hI5 (by omega) | exact fr_cpy hI5 (by omega)).trans F
      exact (fb_Mch_setCode_24 o0  h).trans F
set_option maxRecDepth 20000 in
set_option maxHeartbeats 4000000 in
theorem fb_Eng_code_10 {hd : Nat} {b : Nat} {r : IM} (o0 : b < hd ∨ hd + 19 ≤ b)   {I : IM} (h : b_Eng_code_10 hd   I = some r) : r b = I b := by
  unfold b_Eng_code_10 at h
  have F : I b = I b := rfl
  cases h
set_option maxRecDepth 20000 in
set_option maxHeartbeats 4000000 in
theorem fr_Eng_code {hd : Nat} {x1 : Int32} {x2 : Int32} {x3 : Int32} {I : IM} {b : Nat} {r : IM}  (h : f_Eng_code hd x1 x2 x3 I = some r) (o0 : b < hd ∨ hd + 19 ≤ b) : r b = I b := by
  unfold f_Eng_code at h
  have F : I b = I b := rfl
  refine em_t (c := x1 < 0) (fun q1 => ?_) (fun q1 => ?_)
  · replace h := ite_t h q1
    exact (fb_Eng_code_10 o0  h).trans F
  · replace h := ite_f h q1
    refine em_t (c := x1 < (64 : Int32)) (fun q2 => ?_) (fun q2 => ?_)
    · replace h := ite_t h q2
      obtain ⟨v3, e4, h⟩ := bnd_e h
      replace F := (fr_Mch_setCode e4 (by first | omega | exact outA o0 (by decide))).trans F
      cases h
      exact F
    · replace h := ite_f h q2
      exact (fb_Eng_code_10 o0  h).trans F
set_option maxRecDepth 20000 in
set_option maxHeartbeats 4000000 in
theorem fb_Mch_setWord_30 {x0 : Nat} {b : Nat} {r : IM} (o0 : b < x0 ∨ x0 + 19 ≤ b)   {I : IM} (h : b_Mch_setWord_30 x0   I = some r) : r b = I b := by
  unfold b_Mch_setWord_30 at h
  have F : I b = I b := rfl
  cases h
  exact F
set_option maxRecDepth 20000 in
set_option maxHeartbeats 4000000 in
theorem fr_Mch_setWord {x0 : Nat} {x1 : Int32} {x2 : Int32} {x3 : Int32} {x4 : Int32} {I : IM} {b : Nat} {r : IM}  (h : f_Mch_setWord x0 x1 x2 x3 x4 I = some r) (o0 : b < x0 ∨ x0 + 19 ≤ b) : r b = I b := by
  unfold f_Mch_setWord at h
  have F : I b = I b := rfl
  obtain ⟨v1, e2, h⟩ := bnd_e h
  refine em_t (c := v1 = 0) (fun q3 => ?_) (fun q3 => ?_)
  · replace h := ite_t h q3
    exact (fb_Mch_setWord_30 o0  h).trans F
  · replace h := ite_f h q3
    obtain ⟨c4, h⟩ := chk_e h
    obtain ⟨I5, hI5, h⟩ := lt_x h
    replace F := (show I5 b = _ from by first | exact fr_up hI5 (by first | omega | (intro e; subst e; revert o0; decide)) | exact fr_fil hI5 (by omega) | exact fr_cpy hI5 (by omega)).trans F
    obtain ⟨I6, hI6, h⟩ := lt_x h
    replace F := (show I6 b = _ from by first | exact fr_up hI6 (by first | omega | (intro e; subst e; revert o0; decide)) | exact fr_fil hI6 (by omega) | exact fr_cpy hI6 (by omega)).trans F
    obtain ⟨I7, hI7, h⟩ := lt_x h
    replace F := (show I7 b = _ from by first | exact fr_up hI7 (by first | omega | (intro e; subst e; revert o0; decide)) | exact fr_fil hI7 (by omega) | exact fr_cpy hI7 (by omega)).trans F
    exact (fb_Mch_setWord_30 o0  h).trans F
set_option maxRecDepth 20000 in
set_option maxHeartbeats 4000000 in
theorem fb_Eng_word_10 {hd : Nat} {b : Nat} {r : IM} (o0 : b < hd ∨ hd + 19 ≤ b)   {I : IM} (h : b_Eng_word_10 hd   I = some r) : r b = I b := by
  unfold b_Eng_word_10 at h
  have F : I b = I b := rfl
  cases h
set_option maxRecDepth 20000 in
set_option maxHeartbeats 4000000 in
theorem fr_Eng_word {hd : Nat} {x1 : Int32} {x2 : Int32} {x3 : Int32} {x4 : Int32} {I : IM} {b : Nat} {r : IM}  (h : f_Eng_word hd x1 x2 x3 x4 I = some r) (o0 : b < hd ∨ hd + 19 ≤ b) : r b = I b := by
  unfold f_Eng_word at h
  have F : I b = I b := rfl
  refine em_t (c := x1 < 0) (fun q1 => ?_) (fun q1 => ?_)
  · replace h := ite_t h q1
    exact (fb_Eng_word_10 o0  h).trans F
  · replace h := ite_f h q1
    refine em_t (c := x1 < (96 : Int32)) (fun q2 => ?_) (fun q2 => ?_)
    · replace h := ite_t h q2
      obtain ⟨v3, e4, h⟩ := bnd_e h
      replace F := (fr_Mch_setWord e4 (by first | omega | exact outA o0 (by decide))).trans F
      cases h
      exact F
    · replace h := ite_f h q2
      exact (fb_Eng_word_10 o0  h).trans F
set_option maxRecDepth 20000 in
set_option maxHeartbeats 4000000 in
theorem fb_Mch_setRegister_24 {x0 : Nat} {b : Nat} {r : IM} (o0 : b < x0 ∨ x0 + 19 ≤ b)   {I : IM} (h : b_Mch_setRegister_24 x0   I = some r) : r b = I b := by
  unfold b_Mch_setRegister_24 at h
  have F : I b = I b := rfl
  cases h
  exact F
set_option maxRecDepth 20000 in
set_option maxHeartbeats 4000000 in
theorem fr_Mch_setRegister {x0 : Nat} {x1 : Int32} {x2 : Int32} {x3 : Int32} {I : IM} {b : Nat} {r : IM}  (h : f_Mch_setRegister x0 x1 x2 x3 I = some r) (o0 : b < x0 ∨ x0 + 19 ≤ b) : r b = I b := by
  unfold f_Mch_setRegister at h
  have F : I b = I b := rfl
  refine em_t (c := x1 < 0) (fun q1 => ?_) (fun q1 => ?_)
  · replace h := ite_t h q1
    exact (fb_Mch_setRegister_24 o0  h).trans F
  · replace h := ite_f h q1
    refine em_t (c := (8 : Int32) < x1) (fun q2 => ?_) (fun q2 => ?_)
    · replace h := ite_t h q2
      exact (fb_Mch_setRegister_24 o0  h).trans F
    · replace h := ite_f h q2
      obtain ⟨c3, h⟩ := chk_e h
      obtain ⟨I4, hI4, h⟩ := lt_x h
      replace F := (show I4 b = _ from by first | exact fr_up hI4 (by first | omega | (intro e; subst e; revert o0; decide)) | exact fr_fil hI4 (by omega) | exact fr_cpy hI4 (by omega)).trans F
      obtain ⟨I5, hI5, h⟩ := lt_x h
      replace F := (show I5 b = _ from by first | exact fr_up hI5 (by first | omega | (intro e; subst e; revert o0; decide)) | exact fr_fil hI5 (by omega) | exact fr_cpy hI5 (by omega)).trans F
      exact (fb_Mch_setRegister_24 o0  h).trans F
set_option maxRecDepth 20000 in
set_option maxHeartbeats 4000000 in
theorem fb_Eng_register_10 {hd : Nat} {b : Nat} {r : IM} (o0 : b < hd ∨ hd + 19 ≤ b)   {I : IM} (h : b_Eng_register_10 hd   I = some r) : r b = I b := by
  unfold b_Eng_register_10 at h
  have F : I b = I b := rfl
  cases h
set_option maxRecDepth 20000 in
set_option maxHeartbeats 4000000 in
theorem fr_Eng_register {hd : Nat} {x1 : Int32} {x2 : Int32} {x3 : Int32} {I : IM} {b : Nat} {r : IM}  (h : f_Eng_register hd x1 x2 x3 I = some r) (o0 : b < hd ∨ hd + 19 ≤ b) : r b = I b := by
  unfold f_Eng_register at h
  have F : I b = I b := rfl
  refine em_t (c := x1 < 0) (fun q1 => ?_) (fun q1 => ?_)
  · replace h := ite_t h q1
    exact (fb_Eng_register_10 o0  h).trans F
  · replace h := ite_f h q1
    refine em_t (c := x1 ≤ (8 : Int32)) (fun q2 => ?_) (fun q2 => ?_)
    · replace h := ite_t h q2
      obtain ⟨v3, e4, h⟩ := bnd_e h
      replace F := (fr_Mch_setRegister e4 (by first | omega | exact outA o0 (by decide))).trans F
      cases h
      exact F
    · replace h := ite_f h q2
      exact (fb_Eng_register_10 o0  h).trans F
set_option maxRecDepth 20000 in
set_option maxHeartbeats 4000000 in
theorem fb_Mch_addInput_40 {x0 : Nat} {b : Nat} {r : IM} (o0 : b < x0 ∨ x0 + 19 ≤ b)   {I : IM} (h : b_Mch_addInput_40 x0   I = some r) : r b = I b := by
  unfold b_Mch_addInput_40 at h
  have F : I b = I b := rfl
  cases h
  exact F
set_option maxRecDepth 20000 in
set_option maxHeartbeats 4000000 in
theorem fr_Mch_addInput {x0 : Nat} {x1 : Int32} {x2 : Int32} {I : IM} {b : Nat} {r : IM}  (h : f_Mch_addInput x0 x1 x2 I = some r) (o0 : b < x0 ∨ x0 + 19 ≤ b) : r b = I b := by
  unfold f_Mch_addInput at h
  have F : I b = I b := rfl
  refine em_t (c := (I (x0 + 13) (5 : Int32).toNatClampNeg : Int32) < 0) (fun q1 => ?_) (fun q1 => ?_)
  · replace h := ite_t h q1
    exact (fb_Mch_addInput_40 o0  h).trans F
  · replace h := ite_f h q1
    refine em_t (c := (16 : Int32) ≤ (I (x0 + 13) (5 : Int32).toNatClampNeg : Int32)) (fun q2 => ?_) (fun q2 => ?_)
    · replace h := ite_t h q2
      exact (fb_Mch_addInput_40 o0  h).trans F
    · replace h := ite_f h q2
      obtain ⟨c3, h⟩ := chk_e h
      obtain ⟨I4, hI4, h⟩ := lt_x h
      replace F := (show I4 b = _ from by first | exact fr_up hI4 (by first | omega | (intro e; subst e; revert o0; decide)) | exact fr_fil hI4 (by omega) | exact fr_cpy hI4 (by omega)).trans F
      obtain ⟨I5, hI5, h⟩ := lt_x h
      replace F := (show I5 b = _ from by first | exact fr_up hI5 (by first | omega | (intro e; subst e; revert o0; decide)) | exact fr_fil hI5 (by omega) | exact fr_cpy hI5 (by omega)).trans F
      obtain ⟨I6, hI6, h⟩ := lt_x h
      replace F := (show I6 b = _ from by first | exact fr_up hI6 (by first | omega | (intro e; subst e; revert o0; decide)) | exact fr_fil hI6 (by omega) | exact fr_cpy hI6 (by omega)).trans F
      exact (fb_Mch_addInput_40 o0  h).trans F
set_option maxRecDepth 20000 in
set_option maxHeartbeats 4000000 in
theorem fr_Eng_input {hd : Nat} {x1 : Int32} {x2 : Int32} {I : IM} {b : Nat} {r : Int32 × IM}  (h : f_Eng_input hd x1 x2 I = some r) (o0 : b < hd ∨ hd + 19 ≤ b) : r.2 b = I b := by
  unfold f_Eng_input at h
  have F : I b = I b := rfl
  refine em_t (c := (I (hd + 13) (5 : Int32).toNatClampNeg : Int32) < (16 : Int32)) (fun q1 => ?_) (fun q1 => ?_)
  · replace h := ite_t h q1
    obtain ⟨v2, e3, h⟩ := bnd_e h
    replace F := (fr_Mch_addInput e3 (by first | omega | exact outA o0 (by decide))).trans F
    cases h
    exact F
  · replace h := ite_f h q1
    cases h
set_option maxRecDepth 20000 in
set_option maxHeartbeats 4000000 in
theorem fr_Stp_decode {x1 : Int32} {x2 : Nat} {I : IM} {b : Nat} {r : IM}  (h : f_Stp_decode x1 x2 I = some r) (o0 : b < 35 ∨ 35 + 1 ≤ b) : r b = I b := by
  unfold f_Stp_decode at h
  have F : I b = I b := rfl
  obtain ⟨I1, hI1, h⟩ := lt_x h
  replace F := (show I1 b = _ from by first | exact fr_up hI1 (by first | omega | (intro e; subst e; revert o0; decide)) | exact fr_fil hI1 (by omega) | exact fr_cpy hI1 (by omega)).trans F
  obtain ⟨I2, hI2, h⟩ := lt_x h
  replace F := (show I2 b = _ from by first | exact fr_up hI2 (by first | omega | (intro e; subst e; revert o0; decide)) | exact fr_fil hI2 (by omega) | exact fr_cpy hI2 (by omega)).trans F
  obtain ⟨I3, hI3, h⟩ := lt_x h
  replace F := (show I3 b = _ from by first | exact fr_up hI3 (by first | omega | (intro e; subst e; revert o0; decide)) | exact fr_fil hI3 (by omega) | exact fr_cpy hI3 (by omega)).trans F
  obtain ⟨I4, hI4, h⟩ := lt_x h
  replace F := (show I4 b = _ from by first | exact fr_up hI4 (by first | omega | (intro e; subst e; revert o0; decide)) | exact fr_fil hI4 (by omega) | exact fr_cpy hI4 (by omega)).trans F
  obtain ⟨I5, hI5, h⟩ := lt_x h
  replace F := (show I5 b = _ from by first | exact fr_up hI5 (by first | omega | (intro e; subst e; revert o0; decide)) | exact fr_fil hI5 (by omega) | exact fr_cpy hI5 (by omega)).trans F
  obtain ⟨c6, h⟩ := chk_e h
  obtain ⟨I7, hI7, h⟩ := lt_x h
  replace F := (show I7 b = _ from by first | exact fr_up hI7 (by first | omega | (intro e; subst e; revert o0; decide)) | exact fr_fil hI7 (by omega) | exact fr_cpy hI7 (by omega)).trans F
  cases h
  exact F
set_option maxRecDepth 20000 in
set_option maxHeartbeats 4000000 in
theorem fb_Stp_fillQuestion_50 {n : Nat} {x1 : Nat} {b : Nat} {r : IM} (o0 : b < 36 ∨ 36 + 3 ≤ b) {H15 : Int32 → Int32 → IM → Option (IM)} (hH15 : ∀ (x2 : Int32) (x3 : Int32) (I : IM), H15 x2 x3 I = some r → r b = I b) {x2 : Int32} {x3 : Int32} {y2 : Int32} {y1 : Int32} {I : IM} (h : b_Stp_fillQuestion_50 n x1 H15 x2 x3 y2 y1 I = some r) : r b = I b := by
  unfold b_Stp_fillQuestion_50 at h
  have F : I b = I b := rfl
  obtain ⟨c6, h⟩ := chk_e h
  obtain ⟨I7, hI7, h⟩ := lt_x h
  replace F := (show I7 b = _ from by first | exact fr_up hI7 (by first | omega | (intro e; subst e; revert o0; decide)) | exact fr_fil hI7 (by omega) | exact fr_cpy hI7 (by omega)).trans F
  exact (hH15 _ _ _ h).trans F
set_option maxRecDepth 20000 in
set_option maxHeartbeats 4000000 in
theorem fl_Stp_fillQuestion_15 {n : Nat} {x1 : Nat} {b : Nat} {r : IM} (o0 : b < 36 ∨ 36 + 3 ≤ b)  : ∀ (f : Nat) (x2 : Int32) (x3 : Int32) (I : IM), l_Stp_fillQuestion_15 n x1  f x2 x3 I = some r → r b = I b
  | 0, _, _, _, h => by cases h
  | f + 1, x2, x3, I, h => by
    have ih := fl_Stp_fillQuestion_15 (b := b) (r := r) (n := n) (x1 := x1)  o0 f
    rw [l_Stp_fillQuestion_15] at h
    have F : I b = I b := rfl
    refine em_t (c := (15 : Int32) ≤ x3) (fun q2 => ?_) (fun q2 => ?_)
    · replace h := ite_t h q2
      cases h
      exact F
    · replace h := ite_f h q2
      refine em_f (c := (((x2 : Int32) >>> ((x3 : Int32) &&& 31)) &&& 1 : Int32) = 0) (fun q3 => ?_) (fun q3 => ?_)
      · replace h := ite_f h q3
        obtain ⟨v4, e5, h⟩ := bnd_e h
        exact (fb_Stp_fillQuestion_50 o0 ih h).trans F
      · replace h := ite_t h q3
        exact (fb_Stp_fillQuestion_50 o0 ih h).trans F
set_option maxRecDepth 20000 in
set_option maxHeartbeats 4000000 in
theorem fr_Stp_fillQuestion {n : Nat} {x1 : Nat} {x2 : Int32} {I : IM} {b : Nat} {r : IM}  (h : f_Stp_fillQuestion n x1 x2 I = some r) (o0 : b < 36 ∨ 36 + 3 ≤ b) : r b = I b := by
  unfold f_Stp_fillQuestion at h
  have F : I b = I b := rfl
  obtain ⟨I1, hI1, h⟩ := lt_x h
  replace F := (show I1 b = _ from by first | exact fr_up hI1 (by first | omega | (intro e; subst e; revert o0; decide)) | exact fr_fil hI1 (by omega) | exact fr_cpy hI1 (by omega)).trans F
  exact (fl_Stp_fillQuestion_15 o0  _ _ _ _ h).trans F
set_option maxRecDepth 20000 in
set_option maxHeartbeats 4000000 in
theorem fl_Wrk_forgetAnswer_2 {n : Nat} {x0 : Nat} {b : Nat} {r : IM} (o0 : b < x0 ∨ x0 + 3 ≤ b)  : ∀ (f : Nat) (x1 : Int32) (I : IM), l_Wrk_forgetAnswer_2 n x0  f x1 I = some r → r b = I b
  | 0, _, _, h => by cases h
  | f + 1, x1, I, h => by
    have ih := fl_Wrk_forgetAnswer_2 (b := b) (r := r) (n := n) (x0 := x0)  o0 f
    rw [l_Wrk_forgetAnswer_2] at h
    have F : I b = I b := rfl
    refine em_t (c := (10 : Int32) ≤ x1) (fun q1 => ?_) (fun q1 => ?_)
    · replace h := ite_t h q1
      obtain ⟨I2, hI2, h⟩ := lt_x h
      replace F := (show I2 b = _ from by first | exact fr_up hI2 (by first | omega | (intro e; subst e; revert o0; decide)) | exact fr_fil hI2 (by omega) | exact fr_cpy hI2 (by omega)).trans F
      cases h
      exact F
    · replace h := ite_f h q1
      obtain ⟨c3, h⟩ := chk_e h
      obtain ⟨I4, hI4, h⟩ := lt_x h
      replace F := (show I4 b = _ from by first | exact fr_up hI4 (by first | omega | (intro e; subst e; revert o0; decide)) | exact fr_fil hI4 (by omega) | exact fr_cpy hI4 (by omega)).trans F
      exact (ih _ _ h).trans F
set_option maxRecDepth 20000 in
set_option maxHeartbeats 4000000 in
theorem fr_Wrk_forgetAnswer {n : Nat} {x0 : Nat} {I : IM} {b : Nat} {r : IM}  (h : f_Wrk_forgetAnswer n x0 I = some r) (o0 : b < x0 ∨ x0 + 3 ≤ b) : r b = I b := by
  unfold f_Wrk_forgetAnswer at h
  have F : I b = I b := rfl
  exact (fl_Wrk_forgetAnswer_2 o0  _ _ _ h).trans F
set_option maxRecDepth 20000 in
set_option maxHeartbeats 4000000 in
theorem fb_Wrk_pop_19 {x0 : Nat} {b : Nat} {r : Int32 × IM} (o0 : b < x0 ∨ x0 + 3 ≤ b)   {I : IM} (h : b_Wrk_pop_19 x0   I = some r) : r.2 b = I b := by
  unfold b_Wrk_pop_19 at h
  have F : I b = I b := rfl
  cases h
  exact F
set_option maxRecDepth 20000 in
set_option maxHeartbeats 4000000 in
theorem fr_Wrk_pop {x0 : Nat} {I : IM} {b : Nat} {r : Int32 × IM}  (h : f_Wrk_pop x0 I = some r) (o0 : b < x0 ∨ x0 + 3 ≤ b) : r.2 b = I b := by
  unfold f_Wrk_pop at h
  have F : I b = I b := rfl
  refine em_t (c := (I x0 2 : Int32) ≤ 0) (fun q1 => ?_) (fun q1 => ?_)
  · replace h := ite_t h q1
    exact (fb_Wrk_pop_19 o0  h).trans F
  · replace h := ite_f h q1
    refine em_t (c := (I x0 2 : Int32) ≤ (64 : Int32)) (fun q2 => ?_) (fun q2 => ?_)
    · replace h := ite_t h q2
      obtain ⟨I3, hI3, h⟩ := lt_x h
      replace F := (show I3 b = _ from by first | exact fr_up hI3 (by first | omega | (intro e; subst e; revert o0; decide)) | exact fr_fil hI3 (by omega) | exact fr_cpy hI3 (by omega)).trans F
      obtain ⟨c4, h⟩ := chk_e h
      cases h
      exact F
    · replace h := ite_f h q2
      exact (fb_Wrk_pop_19 o0  h).trans F
set_option maxRecDepth 20000 in
set_option maxHeartbeats 4000000 in
theorem fr_Wrk_endWith {n : Nat} {x0 : Nat} {x1 : Int32} {I : IM} {b : Nat} {r : IM}  (h : f_Wrk_endWith n x0 x1 I = some r) (o0 : b < x0 ∨ x0 + 3 ≤ b) : r b = I b := by
  unfold f_Wrk_endWith at h
  have F : I b = I b := rfl
  obtain ⟨v1, e2, h⟩ := bnd_e h
  replace F := (fr_Wrk_forgetAnswer e2 (by first | omega | exact outA o0 (by decide))).trans F
  obtain ⟨I3, hI3, h⟩ := lt_x h
  replace F := (show I3 b = _ from by first | exact fr_up hI3 (by first | omega | (intro e; subst e; revert o0; decide)) | exact fr_fil hI3 (by omega) | exact fr_cpy hI3 (by omega)).trans F
  cases h
  exact F
set_option maxRecDepth 20000 in
set_option maxHeartbeats 4000000 in
theorem fb_Wrk_conclude_78 {n : Nat} {x0 : Nat} {b : Nat} {r : IM} (o0 : b < x0 ∨ x0 + 3 ≤ b)   {I : IM} (h : b_Wrk_conclude_78 n x0   I = some r) : r b = I b := by
  unfold b_Wrk_conclude_78 at h
  have F : I b = I b := rfl
  cases h
  exact F
set_option maxRecDepth 20000 in
set_option maxHeartbeats 4000000 in
theorem fr_Wrk_conclude {n : Nat} {x0 : Nat} {x1 : Int32} {x2 : Int32} {I : IM} {b : Nat} {r : IM}  (h : f_Wrk_conclude n x0 x1 x2 I = some r) (o0 : b < x0 ∨ x0 + 3 ≤ b) : r b = I b := by
  unfold f_Wrk_conclude at h
  have F : I b = I b := rfl
  obtain ⟨v1, e2, h⟩ := bnd_e h
  replace F := (fr_Wrk_pop e2 (by first | omega | exact outA o0 (by decide))).trans F
  refine em_t (c := x1 = 42) (fun q4 => ?_) (fun q4 => ?_)
  · replace h := ite_t h q4
    obtain ⟨I5, hI5, h⟩ := lt_x h
    replace F := (show I5 b = _ from by first | exact fr_up hI5 (by first | omega | (intro e; subst e; revert o0; decide)) | exact fr_fil hI5 (by omega) | exact fr_cpy hI5 (by omega)).trans F
    exact (fb_Wrk_conclude_78 o0  h).trans F
  · replace h := ite_f h q4
    refine em_t (c := x1 = 43) (fun q6 => ?_) (fun q6 => ?_)
    · replace h := ite_t h q6
      obtain ⟨I7, hI7, h⟩ := lt_x h
      replace F := (show I7 b = _ from by first | exact fr_up hI7 (by first | omega | (intro e; subst e; revert o0; decide)) | exact fr_fil hI7 (by omega) | exact fr_cpy hI7 (by omega)).trans F
      exact (fb_Wrk_conclude_78 o0  h).trans F
    · replace h := ite_f h q6
      refine em_t (c := x1 = 44) (fun q8 => ?_) (fun q8 => ?_)
      · replace h := ite_t h q8
        obtain ⟨I9, hI9, h⟩ := lt_x h
        replace F := (show I9 b = _ from by first | exact fr_up hI9 (by first | omega | (intro e; subst e; revert o0; decide)) | exact fr_fil hI9 (by omega) | exact fr_cpy hI9 (by omega)).trans F
        exact (fb_Wrk_conclude_78 o0  h).trans F
      · replace h := ite_f h q8
        refine em_f (c := (v1.1 : Int32) = 0) (fun q10 => ?_) (fun q10 => ?_)
        · replace h := ite_f h q10
          exact (fb_Wrk_conclude_78 o0  h).trans F
        · replace h := ite_t h q10
          obtain ⟨v11, e12, h⟩ := bnd_e h
          replace F := (fr_Wrk_endWith e12 (by first | omega | exact outA o0 (by decide))).trans F
          obtain ⟨I13, hI13, h⟩ := lt_x h
          replace F := (show I13 b = _ from by first | exact fr_up hI13 (by first | omega | (intro e; subst e; revert o0; decide)) | exact fr_fil hI13 (by omega) | exact fr_cpy hI13 (by omega)).trans F
          exact (fb_Wrk_conclude_78 o0  h).trans F
set_option maxRecDepth 20000 in
set_option maxHeartbeats 4000000 in
theorem fb_Mch_pairWith_52 {n : Nat} {x0 : Nat} {b : Nat} {r : Int32 × IM} (o0 : b < x0 ∨ x0 + 19 ≤ b) {H11 : Int32 → Int32 → Int32 → Int32 → IM → Option (Int32 × IM)} (hH11 : ∀ (x1 : Int32) (x2 : Int32) (x3 : Int32) (x4 : Int32) (I : IM), H11 x1 x2 x3 x4 I = some r → r.2 b = I b) {x1 : Int32} {x2 : Int32} {x3 : Int32} {x4 : Int32} {I : IM} (h : b_Mch_pairWith_52 n x0 H11 x1 x2 x3 x4 I = some r) : r.2 b = I b := by
  unfold b_Mch_pairWith_52 at h
  have F : I b = I b := rfl
  exact (hH11 _ _ _ _ _ h).trans F
set_option maxRecDepth 20000 in
set_option maxHeartbeats 4000000 in
theorem fb_Mch_pairWith_68 {n : Nat} {x0 : Nat} {b : Nat} {r : Int32 × IM} (o0 : b < x0 ∨ x0 + 19 ≤ b)   {I : IM} (h : b_Mch_pairWith_68 n x0   I = some r) : r.2 b = I b := by
  unfold b_Mch_pairWith_68 at h
  have F : I b = I b := rfl
  cases h
  exact F
set_option maxRecDepth 20000 in
set_option maxHeartbeats 4000000 in
theorem fb_Mch_pairWith_58 {n : Nat} {x0 : Nat} {b : Nat} {r : Int32 × IM} (o0 : b < x0 ∨ x0 + 19 ≤ b)  {x1 : Int32} {x2 : Int32} {x3 : Int32} {I : IM} (h : b_Mch_pairWith_58 n x0  x1 x2 x3 I = some r) : r.2 b = I b := by
  unfold b_Mch_pairWith_58 at h
  have F : I b = I b := rfl
  refine em_t (c := x3 < 0) (fun q6 => ?_) (fun q6 => ?_)
  · replace h := ite_t h q6
    exact (fb_Mch_pairWith_68 o0  h).trans F
  · replace h := ite_f h q6
    refine em_t (c := x3 < (60 : Int32)) (fun q7 => ?_) (fun q7 => ?_)
    · replace h := ite_t h q7
      obtain ⟨c8, h⟩ := chk_e h
      obtain ⟨I9, hI9, h⟩ := lt_x h
      replace F := (show I9 b = _ from by first | exact fr_up hI9 (by first | omega | (intro e; subst e; revert o0; decide)) | exact fr_fil hI9 (by omega) | exact fr_cpy hI9 (by omega)).trans F
      obtain ⟨I10, hI10, h⟩ := lt_x h
      replace F := (show I10 b = _ from by first | exact fr_up hI10 (by first | omega | (intro e; subst e; revert o0; decide)) | exact fr_fil hI10 (by omega) | exact fr_cpy hI10 (by omega)).trans F
      obtain ⟨I11, hI11, h⟩ := lt_x h
      replace F := (show I11 b = _ from by first | exact fr_up hI11 (by first | omega | (intro e; subst e; revert o0; decide)) | exact fr_fil hI11 (by omega) | exact fr_cpy hI11 (by omega)).trans F
      cases h
      exact F
    · replace h := ite_f h q7
      exact (fb_Mch_pairWith_68 o0  h).trans F
set_option maxRecDepth 20000 in
set_option maxHeartbeats 4000000 in
theorem fl_Mch_pairWith_11 {n : Nat} {x0 : Nat} {b : Nat} {r : Int32 × IM} (o0 : b < x0 ∨ x0 + 19 ≤ b)  : ∀ (f : Nat) (x1 : Int32) (x2 : Int32) (x3 : Int32) (x4 : Int32) (I : IM), l_Mch_pairWith_11 n x0  f x1 x2 x3 x4 I = some r → r.2 b = I b
  | 0, _, _, _, _, _, h => by cases h
  | f + 1, x1, x2, x3, x4, I, h => by
    have ih := fl_Mch_pairWith_11 (b := b) (r := r) (n := n) (x0 := x0)  o0 f
    rw [l_Mch_pairWith_11] at h
    have F : I b = I b := rfl
    refine em_t (c := x3 ≤ x4) (fun q1 => ?_) (fun q1 => ?_)
    · replace h := ite_t h q1
      exact (fb_Mch_pairWith_58 o0  h).trans F
    · replace h := ite_f h q1
      refine em_t (c := (60 : Int32) ≤ x4) (fun q2 => ?_) (fun q2 => ?_)
      · replace h := ite_t h q2
        exact (fb_Mch_pairWith_58 o0  h).trans F
      · replace h := ite_f h q2
        obtain ⟨c3, h⟩ := chk_e h
        refine em_f (c := (I (x0 + 11) x4.toNatClampNeg : Int32) = x1) (fun q4 => ?_) (fun q4 => ?_)
        · replace h := ite_f h q4
          exact (fb_Mch_pairWith_52 o0 ih h).trans F
        · replace h := ite_t h q4
          refine em_f (c := (I (x0 + 12) x4.toNatClampNeg : Int32) = x2) (fun q5 => ?_) (fun q5 => ?_)
          · replace h := ite_f h q5
            exact (fb_Mch_pairWith_52 o0 ih h).trans F
          · replace h := ite_t h q5
            cases h
            exact F
set_option maxRecDepth 20000 in
set_option maxHeartbeats 4000000 in
theorem fr_Mch_pairWith {n : Nat} {x0 : Nat} {x1 : Int32} {x2 : Int32} {I : IM} {b : Nat} {r : Int32 × IM}  (h : f_Mch_pairWith n x0 x1 x2 I = some r) (o0 : b < x0 ∨ x0 + 19 ≤ b) : r.2 b = I b := by
  unfold f_Mch_pairWith at h
  have F : I b = I b := rfl
  exact (fl_Mch_pairWith_11 o0  _ _ _ _ _ _ h).trans F
set_option maxRecDepth 20000 in
set_option maxHeartbeats 4000000 in
theorem fb_Wrk_valueOf_101 {n : Nat} {x0 : Nat} {x3 : Nat} {b : Nat} {r : Int32 × IM} (o0 : b < x0 ∨ x0 + 3 ≤ b) (o1 : b < x3 ∨ x3 + 19 ≤ b)  {y0 : Int32} {I : IM} (h : b_Wrk_valueOf_101 n x0 x3  y0 I = some r) : r.2 b = I b := by
  unfold b_Wrk_valueOf_101 at h
  have F : I b = I b := rfl
  cases h
  exact F
set_option maxRecDepth 20000 in
set_option maxHeartbeats 4000000 in
theorem fb_Wrk_valueOf_100 {n : Nat} {x0 : Nat} {x3 : Nat} {b : Nat} {r : Int32 × IM} (o0 : b < x0 ∨ x0 + 3 ≤ b) (o1 : b < x3 ∨ x3 + 19 ≤ b)   {I : IM} (h : b_Wrk_valueOf_100 n x0 x3   I = some r) : r.2 b = I b := by
  unfold b_Wrk_valueOf_100 at h
  have F : I b = I b := rfl
  exact (fb_Wrk_valueOf_101 o0 o1  h).trans F
set_option maxRecDepth 20000 in
set_option maxHeartbeats 4000000 in
theorem fb_Wrk_valueOf_207 {n : Nat} {x0 : Nat} {x3 : Nat} {b : Nat} {r : Int32 × IM} (o0 : b < x0 ∨ x0 + 3 ≤ b) (o1 : b < x3 ∨ x3 + 19 ≤ b)  {y0 : Int32} {I : IM} (h : b_Wrk_valueOf_207 n x0 x3  y0 I = some r) : r.2 b = I b := by
  unfold b_Wrk_valueOf_207 at h
  have F : I b = I b := rfl
  cases h
  exact F
set_option maxRecDepth 20000 in
set_option maxHeartbeats 4000000 in
theorem fr_Wrk_valueOf {n : Nat} {x0 : Nat} {x1 : Int32} {x2 : Int32} {x3 : Nat} {I : IM} {b : Nat} {r : Int32 × IM}  (h : f_Wrk_valueOf n x0 x1 x2 x3 I = some r) (o0 : b < x0 ∨ x0 + 3 ≤ b) (o1 : b < x3 ∨ x3 + 19 ≤ b) : r.2 b = I b := by
  unfold f_Wrk_valueOf at h
  have F : I b = I b := rfl
  refine em_t (c := x1 = 38) (fun q2 => ?_) (fun q2 => ?_)
  · replace h := ite_t h q2
    obtain ⟨v3, e4, h⟩ := bnd_e h
    replace F := (fr_Wrk_pop e4 (by first | omega | exact outA o0 (by decide))).trans F
    obtain ⟨v5, e6, h⟩ := bnd_e h
    cases h
    exact F
  · replace h := ite_f h q2
    refine em_t (c := x1 = 39) (fun q7 => ?_) (fun q7 => ?_)
    · replace h := ite_t h q7
      obtain ⟨v8, e9, h⟩ := bnd_e h
      replace F := (fr_Wrk_pop e9 (by first | omega | exact outA o0 (by decide))).trans F
      obtain ⟨v10, e11, h⟩ := bnd_e h
      cases h
      exact F
    · replace h := ite_f h q7
      refine em_t (c := x1 = 40) (fun q12 => ?_) (fun q12 => ?_)
      · replace h := ite_t h q12
        obtain ⟨v13, e14, h⟩ := bnd_e h
        replace F := (fr_Wrk_pop e14 (by first | omega | exact outA o0 (by decide))).trans F
        obtain ⟨v15, e16, h⟩ := bnd_e h
        cases h
        exact F
      · replace h := ite_f h q12
        refine em_t (c := x1 = 101) (fun q17 => ?_) (fun q17 => ?_)
        · replace h := ite_t h q17
          cases h
          exact F
        · replace h := ite_f h q17
          refine em_t (c := x1 = 103) (fun q18 => ?_) (fun q18 => ?_)
          · replace h := ite_t h q18
            refine em_t (c := x2 < 0) (fun q19 => ?_) (fun q19 => ?_)
            · replace h := ite_t h q19
              exact (fb_Wrk_valueOf_100 o0 o1  h).trans F
            · replace h := ite_f h q19
              refine em_t (c := (15 : Int32) ≤ x2) (fun q20 => ?_) (fun q20 => ?_)
              · replace h := ite_t h q20
                exact (fb_Wrk_valueOf_100 o0 o1  h).trans F
              · replace h := ite_f h q20
                obtain ⟨c21, h⟩ := chk_e h
                exact (fb_Wrk_valueOf_101 o0 o1  h).trans F
          · replace h := ite_f h q18
            refine em_t (c := x1 = 104) (fun q22 => ?_) (fun q22 => ?_)
            · replace h := ite_t h q22
              obtain ⟨v23, e24, h⟩ := bnd_e h
              replace F := (fr_Wrk_pop e24 (by first | omega | exact outA o0 (by decide))).trans F
              cases h
              exact F
            · replace h := ite_f h q22
              refine em_t (c := x1 = 161) (fun q25 => ?_) (fun q25 => ?_)
              · replace h := ite_t h q25
                obtain ⟨v26, e27, h⟩ := bnd_e h
                replace F := (fr_Wrk_pop e27 (by first | omega | exact outA o0 (by decide))).trans F
                cases h
                exact F
              · replace h := ite_f h q25
                refine em_t (c := x1 = 254) (fun q29 => ?_) (fun q29 => ?_)
                · replace h := ite_t h q29
                  obtain ⟨v30, e31, h⟩ := bnd_e h
                  replace F := (fr_Wrk_pop e31 (by first | omega | exact outA o0 (by decide))).trans F
                  cases h
                  exact F
                · replace h := ite_f h q29
                  obtain ⟨v32, e33, h⟩ := bnd_e h
                  replace F := (fr_Wrk_pop e33 (by first | omega | exact outA o0 (by decide))).trans F
                  obtain ⟨v34, e35, h⟩ := bnd_e h
                  replace F := (fr_Wrk_pop e35 (by first | omega | exact outA o0 (by decide))).trans F
                  refine em_f (c := x1 = (37 : Int32)) (fun q36 => ?_) (fun q36 => ?_)
                  · replace h := ite_f h q36
                    obtain ⟨v37, e38, h⟩ := bnd_e h
                    exact (fb_Wrk_valueOf_207 o0 o1  h).trans F
                  · replace h := ite_t h q36
                    obtain ⟨v39, e40, h⟩ := bnd_e h
                    replace F := (fr_Mch_pairWith e40 (by first | omega | exact outA o0 (by decide))).trans F
                    exact (fb_Wrk_valueOf_207 o0 o1  h).trans F
set_option maxRecDepth 20000 in
set_option maxHeartbeats 4000000 in
theorem fb_Wrk_push_39 {x0 : Nat} {b : Nat} {r : IM} (o0 : b < x0 ∨ x0 + 3 ≤ b)   {I : IM} (h : b_Wrk_push_39 x0   I = some r) : r b = I b := by
  unfold b_Wrk_push_39 at h
  have F : I b = I b := rfl
  cases h
  exact F
set_option maxRecDepth 20000 in
set_option maxHeartbeats 4000000 in
theorem fr_Wrk_push {x0 : Nat} {x1 : Int32} {I : IM} {b : Nat} {r : IM}  (h : f_Wrk_push x0 x1 I = some r) (o0 : b < x0 ∨ x0 + 3 ≤ b) : r b = I b := by
  unfold f_Wrk_push at h
  have F : I b = I b := rfl
  refine em_t (c := (I x0 2 : Int32) < 0) (fun q1 => ?_) (fun q1 => ?_)
  · replace h := ite_t h q1
    exact (fb_Wrk_push_39 o0  h).trans F
  · replace h := ite_f h q1
    refine em_t (c := (64 : Int32) ≤ (I x0 2 : Int32)) (fun q2 => ?_) (fun q2 => ?_)
    · replace h := ite_t h q2
      exact (fb_Wrk_push_39 o0  h).trans F
    · replace h := ite_f h q2
      obtain ⟨c3, h⟩ := chk_e h
      obtain ⟨I4, hI4, h⟩ := lt_x h
      replace F := (show I4 b = _ from by first | exact fr_up hI4 (by first | omega | (intro e; subst e; revert o0; decide)) | exact fr_fil hI4 (by omega) | exact fr_cpy hI4 (by omega)).trans F
      obtain ⟨I5, hI5, h⟩ := lt_x h
      replace F := (show I5 b = _ from by first | exact fr_up hI5 (by first | omega | (intro e; subst e; revert o0; decide)) | exact fr_fil hI5 (by omega) | exact fr_cpy hI5 (by omega)).trans F
      exact (fb_Wrk_push_39 o0  h).trans F
set_option maxRecDepth 20000 in
set_option maxHeartbeats 4000000 in
theorem fb_Wrk_workOut_193 {n : Nat} {x0 : Nat} {x1 : Nat} {x3 : Nat} {b : Nat} {r : IM} (o0 : b < x0 ∨ x0 + 3 ≤ b) (o1 : b < x3 ∨ x3 + 19 ≤ b) {H46 : Int32 → Int32 → IM → Option (IM)} (hH46 : ∀ (x4 : Int32) (x5 : Int32) (I : IM), H46 x4 x5 I = some r → r b = I b) {x4 : Int32} {x5 : Int32} {I : IM} (h : b_Wrk_workOut_193 n x0 x1 x3 H46 x4 x5 I = some r) : r b = I b := by
  unfold b_Wrk_workOut_193 at h
  have F : I b = I b := rfl
  refine em_t (c := (I (x0 + 1) (1 : Int32).toNatClampNeg : Int32) = 0) (fun q16 => ?_) (fun q16 => ?_)
  · replace h := ite_t h q16
    exact (hH46 _ _ _ h).trans F
  · replace h := ite_f h q16
    cases h
    exact F
set_option maxRecDepth 20000 in
set_option maxHeartbeats 4000000 in
theorem fb_Wrk_workOut_128 {n : Nat} {x0 : Nat} {x1 : Nat} {x3 : Nat} {b : Nat} {r : IM} (o0 : b < x0 ∨ x0 + 3 ≤ b) (o1 : b < x3 ∨ x3 + 19 ≤ b) {H46 : Int32 → Int32 → IM → Option (IM)} (hH46 : ∀ (x4 : Int32) (x5 : Int32) (I : IM), H46 x4 x5 I = some r → r b = I b) {x4 : Int32} {y0 : Int32} {I : IM} (h : b_Wrk_workOut_128 n x0 x1 x3 H46 x4 y0 I = some r) : r b = I b := by
  unfold b_Wrk_workOut_128 at h
  have F : I b = I b := rfl
  exact (fb_Wrk_workOut_193 o0 o1 hH46 h).trans F
set_option maxRecDepth 20000 in
set_option maxHeartbeats 4000000 in
theorem fb_Wrk_workOut_107 {n : Nat} {x0 : Nat} {x1 : Nat} {x3 : Nat} {b : Nat} {r : IM} (o0 : b < x0 ∨ x0 + 3 ≤ b) (o1 : b < x3 ∨ x3 + 19 ≤ b) {H46 : Int32 → Int32 → IM → Option (IM)} (hH46 : ∀ (x4 : Int32) (x5 : Int32) (I : IM), H46 x4 x5 I = some r → r b = I b) {x4 : Int32} {x5 : Int32} {x7 : Int32} {y0 : Int32} {I : IM} (h : b_Wrk_workOut_107 n x0 x1 x3 H46 x4 x5 x7 y0 I = some r) : r b = I b := by
  unfold b_Wrk_workOut_107 at h
  have F : I b = I b := rfl
  refine em_t (c := y0 = 0) (fun q30 => ?_) (fun q30 => ?_)
  · replace h := ite_t h q30
    exact (fb_Wrk_workOut_128 o0 o1 hH46 h).trans F
  · replace h := ite_f h q30
    exact (fb_Wrk_workOut_128 o0 o1 hH46 h).trans F
set_option maxRecDepth 20000 in
set_option maxHeartbeats 4000000 in
theorem fb_Wrk_workOut_102 {n : Nat} {x0 : Nat} {x1 : Nat} {x3 : Nat} {b : Nat} {r : IM} (o0 : b < x0 ∨ x0 + 3 ≤ b) (o1 : b < x3 ∨ x3 + 19 ≤ b) {H46 : Int32 → Int32 → IM → Option (IM)} (hH46 : ∀ (x4 : Int32) (x5 : Int32) (I : IM), H46 x4 x5 I = some r → r b = I b) {x4 : Int32} {x5 : Int32} {x7 : Int32} {I : IM} (h : b_Wrk_workOut_102 n x0 x1 x3 H46 x4 x5 x7 I = some r) : r b = I b := by
  unfold b_Wrk_workOut_102 at h
  have F : I b = I b := rfl
  exact (fb_Wrk_workOut_107 o0 o1 hH46 h).trans F
set_option maxRecDepth 20000 in
set_option maxHeartbeats 4000000 in
theorem fb_Wrk_workOut_87 {n : Nat} {x0 : Nat} {x1 : Nat} {x3 : Nat} {b : Nat} {r : IM} (o0 : b < x0 ∨ x0 + 3 ≤ b) (o1 : b < x3 ∨ x3 + 19 ≤ b) {H46 : Int32 → Int32 → IM → Option (IM)} (hH46 : ∀ (x4 : Int32) (x5 : Int32) (I : IM), H46 x4 x5 I = some r → r b = I b) {x4 : Int32} {x5 : Int32} {x6 : Int32} {x7 : Int32} {I : IM} (h : b_Wrk_workOut_87 n x0 x1 x3 H46 x4 x5 x6 x7 I = some r) : r b = I b := by
  unfold b_Wrk_workOut_87 at h
  have F : I b = I b := rfl
  refine em_t (c := x6 = (186 : Int32)) (fun q25 => ?_) (fun q25 => ?_)
  · replace h := ite_t h q25
    exact (fb_Wrk_workOut_102 o0 o1 hH46 h).trans F
  · replace h := ite_f h q25
    obtain ⟨v26, e27, h⟩ := bnd_e h
    replace F := (fr_Wrk_pop e27 (by first | omega | exact outA o0 (by decide))).trans F
    refine em_t (c := (if (v26.1 : Int32) = 0 then 1 else 0 : Int32) = 0) (fun q29 => ?_) (fun q29 => ?_)
    · replace h := ite_t h q29
      exact (fb_Wrk_workOut_128 o0 o1 hH46 h).trans F
    · replace h := ite_f h q29
      exact (fb_Wrk_workOut_128 o0 o1 hH46 h).trans F
set_option maxRecDepth 20000 in
set_option maxHeartbeats 4000000 in
theorem fb_Wrk_workOut_158 {n : Nat} {x0 : Nat} {x1 : Nat} {x3 : Nat} {b : Nat} {r : IM} (o0 : b < x0 ∨ x0 + 3 ≤ b) (o1 : b < x3 ∨ x3 + 19 ≤ b) {H46 : Int32 → Int32 → IM → Option (IM)} (hH46 : ∀ (x4 : Int32) (x5 : Int32) (I : IM), H46 x4 x5 I = some r → r b = I b) {x4 : Int32} {x5 : Int32} {x6 : Int32} {x7 : Int32} {I : IM} (h : b_Wrk_workOut_158 n x0 x1 x3 H46 x4 x5 x6 x7 I = some r) : r b = I b := by
  unfold b_Wrk_workOut_158 at h
  have F : I b = I b := rfl
  obtain ⟨v17, e18, h⟩ := bnd_e h
  replace F := (fr_Wrk_valueOf e18 (by first | omega | exact outA o0 (by decide)) (by first | omega | exact outA o0 (by decide))).trans F
  obtain ⟨v19, e20, h⟩ := bnd_e h
  replace F := (fr_Wrk_push e20 (by first | omega | exact outA o0 (by decide))).trans F
  refine em_f (c := x6 = (37 : Int32)) (fun q21 => ?_) (fun q21 => ?_)
  · replace h := ite_f h q21
    exact (fb_Wrk_workOut_193 o0 o1 hH46 h).trans F
  · replace h := ite_t h q21
    refine em_f (c := (v17.1 : Int32) = ((-1) : Int32)) (fun q22 => ?_) (fun q22 => ?_)
    · replace h := ite_f h q22
      exact (fb_Wrk_workOut_193 o0 o1 hH46 h).trans F
    · replace h := ite_t h q22
      obtain ⟨v23, e24, h⟩ := bnd_e h
      replace F := (fr_Wrk_endWith e24 (by first | omega | exact outA o0 (by decide))).trans F
      exact (fb_Wrk_workOut_193 o0 o1 hH46 h).trans F
set_option maxRecDepth 20000 in
set_option maxHeartbeats 4000000 in
theorem fl_Wrk_workOut_46 {n : Nat} {x0 : Nat} {x1 : Nat} {x3 : Nat} {b : Nat} {r : IM} (o0 : b < x0 ∨ x0 + 3 ≤ b) (o1 : b < x3 ∨ x3 + 19 ≤ b)  : ∀ (f : Nat) (x4 : Int32) (x5 : Int32) (I : IM), l_Wrk_workOut_46 n x0 x1 x3  f x4 x5 I = some r → r b = I b
  | 0, _, _, _, h => by cases h
  | f + 1, x4, x5, I, h => by
    have ih := fl_Wrk_workOut_46 (b := b) (r := r) (n := n) (x0 := x0) (x1 := x1) (x3 := x3)  o0 o1 f
    rw [l_Wrk_workOut_46] at h
    have F : I b = I b := rfl
    refine em_t (c := x4 ≤ x5) (fun q8 => ?_) (fun q8 => ?_)
    · replace h := ite_t h q8
      cases h
      exact F
    · replace h := ite_f h q8
      obtain ⟨c9, h⟩ := chk_e h
      refine em_t (c := (I (x1 + 1) x5.toNatClampNeg : Int32) = (186 : Int32)) (fun q10 => ?_) (fun q10 => ?_)
      · replace h := ite_t h q10
        exact (fb_Wrk_workOut_87 o0 o1 ih h).trans F
      · replace h := ite_f h q10
        refine em_f (c := (I (x1 + 1) x5.toNatClampNeg : Int32) = (191 : Int32)) (fun q11 => ?_) (fun q11 => ?_)
        · replace h := ite_f h q11
          refine em_t (c := (I (x1 + 1) x5.toNatClampNeg : Int32) < (41 : Int32)) (fun q12 => ?_) (fun q12 => ?_)
          · replace h := ite_t h q12
            exact (fb_Wrk_workOut_158 o0 o1 ih h).trans F
          · replace h := ite_f h q12
            refine em_t (c := (44 : Int32) < (I (x1 + 1) x5.toNatClampNeg : Int32)) (fun q13 => ?_) (fun q13 => ?_)
            · replace h := ite_t h q13
              exact (fb_Wrk_workOut_158 o0 o1 ih h).trans F
            · replace h := ite_f h q13
              obtain ⟨v14, e15, h⟩ := bnd_e h
              replace F := (fr_Wrk_conclude e15 (by first | omega | exact outA o0 (by decide))).trans F
              exact (fb_Wrk_workOut_193 o0 o1 ih h).trans F
        · replace h := ite_t h q11
          exact (fb_Wrk_workOut_87 o0 o1 ih h).trans F
set_option maxRecDepth 20000 in
set_option maxHeartbeats 4000000 in
theorem fr_Wrk_workOut {n : Nat} {x0 : Nat} {x1 : Nat} {x2 : Int32} {x3 : Nat} {I : IM} {b : Nat} {r : IM}  (h : f_Wrk_workOut n x0 x1 x2 x3 I = some r) (o0 : b < x0 ∨ x0 + 3 ≤ b) (o1 : b < x3 ∨ x3 + 19 ≤ b) : r b = I b := by
  unfold f_Wrk_workOut at h
  have F : I b = I b := rfl
  obtain ⟨v1, e2, h⟩ := bnd_e h
  replace F := (fr_Wrk_forgetAnswer e2 (by first | omega | exact outA o0 (by decide))).trans F
  obtain ⟨v3, e4, h⟩ := bnd_e h
  refine em_f (c := v3 = 0) (fun q5 => ?_) (fun q5 => ?_)
  · replace h := ite_f h q5
    obtain ⟨I6, hI6, h⟩ := lt_x h
    replace F := (show I6 b = _ from by first | exact fr_up hI6 (by first | omega | (intro e; subst e; revert o0; decide)) | exact fr_fil hI6 (by omega) | exact fr_cpy hI6 (by omega)).trans F
    obtain ⟨c7, h⟩ := chk_e h
    exact (fl_Wrk_workOut_46 o0 o1  _ _ _ _ h).trans F
  · replace h := ite_t h q5
    cases h
    exact F
set_option maxRecDepth 20000 in
set_option maxHeartbeats 4000000 in
theorem fb_Stp_addCount_33 {x1 : Nat} {b : Nat} {r : IM} (o0 : b < x1 ∨ x1 + 19 ≤ b)   {I : IM} (h : b_Stp_addCount_33 x1   I = some r) : r b = I b := by
  unfold b_Stp_addCount_33 at h
  have F : I b = I b := rfl
  cases h
  exact F
set_option maxRecDepth 20000 in
set_option maxHeartbeats 4000000 in
theorem fr_Stp_addCount {x1 : Nat} {x2 : Int32} {I : IM} {b : Nat} {r : IM}  (h : f_Stp_addCount x1 x2 I = some r) (o0 : b < x1 ∨ x1 + 19 ≤ b) : r b = I b := by
  unfold f_Stp_addCount at h
  have F : I b = I b := rfl
  refine em_t (c := (I 35 4 : Int32) < 0) (fun q1 => ?_) (fun q1 => ?_)
  · replace h := ite_t h q1
    exact (fb_Stp_addCount_33 o0  h).trans F
  · replace h := ite_f h q1
    refine em_t (c := (22 : Int32) ≤ (I 35 4 : Int32)) (fun q2 => ?_) (fun q2 => ?_)
    · replace h := ite_t h q2
      exact (fb_Stp_addCount_33 o0  h).trans F
    · replace h := ite_f h q2
      obtain ⟨c3, h⟩ := chk_e h
      obtain ⟨I4, hI4, h⟩ := lt_x h
      replace F := (show I4 b = _ from by first | exact fr_up hI4 (by first | omega | (intro e; subst e; revert o0; decide)) | exact fr_fil hI4 (by omega) | exact fr_cpy hI4 (by omega)).trans F
      exact (fb_Stp_addCount_33 o0  h).trans F
set_option maxRecDepth 20000 in
set_option maxHeartbeats 4000000 in
theorem fb_Rng_add_103 {x0 : Nat} {x1 : Nat} {b : Nat} {r : IM} (o0 : b < x0 ∨ x0 + 2 ≤ b)   {I : IM} (h : b_Rng_add_103 x0 x1   I = some r) : r b = I b := by
  unfold b_Rng_add_103 at h
  have F : I b = I b := rfl
  cases h
  exact F
set_option maxRecDepth 20000 in
set_option maxHeartbeats 4000000 in
theorem fb_Rng_add_51 {x0 : Nat} {x1 : Nat} {b : Nat} {r : IM} (o0 : b < x0 ∨ x0 + 2 ≤ b)   {I : IM} (h : b_Rng_add_51 x0 x1   I = some r) : r b = I b := by
  unfold b_Rng_add_51 at h
  have F : I b = I b := rfl
  obtain ⟨v5, e6, h⟩ := bnd_e h
  refine em_t (c := v5 < 0) (fun q7 => ?_) (fun q7 => ?_)
  · replace h := ite_t h q7
    exact (fb_Rng_add_103 o0  h).trans F
  · replace h := ite_f h q7
    refine em_t (c := (Int32.ofNat (lenA (x0 + 1)) : Int32) < (v5 + (I x0 3) : Int32)) (fun q8 => ?_) (fun q8 => ?_)
    · replace h := ite_t h q8
      exact (fb_Rng_add_103 o0  h).trans F
    · replace h := ite_f h q8
      refine em_t (c := (Int32.ofNat (lenA x1) : Int32) < (I x0 3 : Int32)) (fun q9 => ?_) (fun q9 => ?_)
      · replace h := ite_t h q9
        exact (fb_Rng_add_103 o0  h).trans F
      · replace h := ite_f h q9
        obtain ⟨c11, h⟩ := chk_e h
        obtain ⟨c12, h⟩ := chk_e h
        obtain ⟨c13, h⟩ := chk_e h
        obtain ⟨c14, h⟩ := chk_e h
        obtain ⟨I10, hI10, h⟩ := lt_x h
        replace F := (show I10 b = _ from by first | exact fr_up hI10 (by first | omega | (intro e; subst e; revert o0; decide)) | exact fr_fil hI10 (by omega) | exact fr_cpy hI10 (by omega)).trans F
        exact (fb_Rng_add_103 o0  h).trans F
set_option maxRecDepth 20000 in
set_option maxHeartbeats 4000000 in
theorem fr_Rng_add {x0 : Nat} {x1 : Nat} {I : IM} {b : Nat} {r : IM}  (h : f_Rng_add x0 x1 I = some r) (o0 : b < x0 ∨ x0 + 2 ≤ b) : r b = I b := by
  unfold f_Rng_add at h
  have F : I b = I b := rfl
  refine em_t (c := (I x0 2 : Int32) ≤ (I x0 0 : Int32)) (fun q1 => ?_) (fun q1 => ?_)
  · replace h := ite_t h q1
    obtain ⟨I3, hI3, h⟩ := lt_x h
    replace F := (show I3 b = _ from by first | exact fr_up hI3 (by first | omega | (intro e; subst e; revert o0; decide)) | exact fr_fil hI3 (by omega) | exact fr_cpy hI3 (by omega)).trans F
    exact (fb_Rng_add_51 o0  h).trans F
  · replace h := ite_f h q1
    obtain ⟨I4, hI4, h⟩ := lt_x h
    replace F := (show I4 b = _ from by first | exact fr_up hI4 (by first | omega | (intro e; subst e; revert o0; decide)) | exact fr_fil hI4 (by omega) | exact fr_cpy hI4 (by omega)).trans F
    exact (fb_Rng_add_51 o0  h).trans F
set_option maxRecDepth 20000 in
set_option maxHeartbeats 4000000 in
theorem fb_Rng_fetch_47 {x0 : Nat} {x2 : Nat} {b : Nat} {r : IM} (o0 : b < x2 ∨ x2 + 1 ≤ b)   {I : IM} (h : b_Rng_fetch_47 x0 x2   I = some r) : r b = I b := by
  unfold b_Rng_fetch_47 at h
  have F : I b = I b := rfl
  cases h
  exact F
set_option maxRecDepth 20000 in
set_option maxHeartbeats 4000000 in
theorem fr_Rng_fetch {x0 : Nat} {x1 : Int32} {x2 : Nat} {I : IM} {b : Nat} {r : IM}  (h : f_Rng_fetch x0 x1 x2 I = some r) (o0 : b < x2 ∨ x2 + 1 ≤ b) : r b = I b := by
  unfold f_Rng_fetch at h
  have F : I b = I b := rfl
  obtain ⟨v1, e2, h⟩ := bnd_e h
  refine em_t (c := v1 < 0) (fun q3 => ?_) (fun q3 => ?_)
  · replace h := ite_t h q3
    exact (fb_Rng_fetch_47 o0  h).trans F
  · replace h := ite_f h q3
    refine em_t (c := (Int32.ofNat (lenA (x0 + 1)) : Int32) < (v1 + (I x0 3) : Int32)) (fun q4 => ?_) (fun q4 => ?_)
    · replace h := ite_t h q4
      exact (fb_Rng_fetch_47 o0  h).trans F
    · replace h := ite_f h q4
      refine em_t (c := (Int32.ofNat (lenA x2) : Int32) < (I x0 3 : Int32)) (fun q5 => ?_) (fun q5 => ?_)
      · replace h := ite_t h q5
        exact (fb_Rng_fetch_47 o0  h).trans F
      · replace h := ite_f h q5
        obtain ⟨c7, h⟩ := chk_e h
        obtain ⟨c8, h⟩ := chk_e h
        obtain ⟨c9, h⟩ := chk_e h
        obtain ⟨c10, h⟩ := chk_e h
        obtain ⟨I6, hI6, h⟩ := lt_x h
        replace F := (show I6 b = _ from by first | exact fr_up hI6 (by first | omega | (intro e; subst e; revert o0; decide)) | exact fr_fil hI6 (by omega) | exact fr_cpy hI6 (by omega)).trans F
        exact (fb_Rng_fetch_47 o0  h).trans F
set_option maxRecDepth 20000 in
set_option maxHeartbeats 4000000 in
theorem fb_Stp_ask_132 {n : Nat} {x1 : Nat} {x2 : Nat} {b : Nat} {r : IM} (o0 : b < 35 ∨ 35 + 1 ≤ b) (o1 : b < x1 ∨ x1 + 19 ≤ b) (o2 : b < 36 ∨ 36 + 3 ≤ b)   {I : IM} (h : b_Stp_ask_132 n x1 x2   I = some r) : r b = I b := by
  unfold b_Stp_ask_132 at h
  have F : I b = I b := rfl
  cases h
  exact F
set_option maxRecDepth 20000 in
set_option maxHeartbeats 4000000 in
theorem fr_Stp_ask {n : Nat} {x1 : Nat} {x2 : Nat} {I : IM} {b : Nat} {r : IM}  (h : f_Stp_ask n x1 x2 I = some r) (o0 : b < 35 ∨ 35 + 1 ≤ b) (o1 : b < x1 ∨ x1 + 19 ≤ b) (o2 : b < 36 ∨ 36 + 3 ≤ b) : r b = I b := by
  unfold f_Stp_ask at h
  have F : I b = I b := rfl
  obtain ⟨v1, e2, h⟩ := bnd_e h
  refine em_f (c := v1 = 0) (fun q3 => ?_) (fun q3 => ?_)
  · replace h := ite_f h q3
    obtain ⟨I4, hI4, h⟩ := lt_x h
    replace F := (show I4 b = _ from by first | exact fr_up hI4 (by first | omega | (intro e; subst e; revert o0; decide)) | exact fr_fil hI4 (by omega) | exact fr_cpy hI4 (by omega)).trans F
    obtain ⟨v5, e6, h⟩ := bnd_e h
    replace F := (fr_Stp_addCount e6 (by first | omega | exact outA o0 (by decide))).trans F
    obtain ⟨v7, e8, h⟩ := bnd_e h
    refine em_f (c := v7 = ((-1) : Int32)) (fun q9 => ?_) (fun q9 => ?_)
    · replace h := ite_f h q9
      obtain ⟨I10, hI10, h⟩ := lt_x h
      replace F := (show I10 b = _ from by first | exact fr_up hI10 (by first | omega | (intro e; subst e; revert o0; decide)) | exact fr_fil hI10 (by omega) | exact fr_cpy hI10 (by omega)).trans F
      obtain ⟨I11, hI11, h⟩ := lt_x h
      replace F := (show I11 b = _ from by first | exact fr_up hI11 (by first | omega | (intro e; subst e; revert o0; decide)) | exact fr_fil hI11 (by omega) | exact fr_cpy hI11 (by omega)).trans F
      obtain ⟨v12, e13, h⟩ := bnd_e h
      replace F := (fr_Stp_addCount e13 (by first | omega | exact outA o0 (by decide))).trans F
      obtain ⟨v14, e15, h⟩ := bnd_e h
      replace F := (fr_Rng_fetch e15 (by first | omega | exact outA o0 (by decide))).trans F
      exact (fb_Stp_ask_132 o0 o1 o2  h).trans F
    · replace h := ite_t h q9
      obtain ⟨I16, hI16, h⟩ := lt_x h
      replace F := (show I16 b = _ from by first | exact fr_up hI16 (by first | omega | (intro e; subst e; revert o0; decide)) | exact fr_fil hI16 (by omega) | exact fr_cpy hI16 (by omega)).trans F
      obtain ⟨v17, e18, h⟩ := bnd_e h
      replace F := (fr_Wrk_workOut e18 (by first | omega | exact outA o0 (by decide)) (by first | omega | exact outA o0 (by decide))).trans F
      obtain ⟨v19, e20, h⟩ := bnd_e h
      replace F := (fr_Rng_add e20 (by first | omega | exact outA o0 (by decide))).trans F
      exact (fb_Stp_ask_132 o0 o1 o2  h).trans F
  · replace h := ite_t h q3
    obtain ⟨I21, hI21, h⟩ := lt_x h
    replace F := (show I21 b = _ from by first | exact fr_up hI21 (by first | omega | (intro e; subst e; revert o0; decide)) | exact fr_fil hI21 (by omega) | exact fr_cpy hI21 (by omega)).trans F
    obtain ⟨v22, e23, h⟩ := bnd_e h
    replace F := (fr_Wrk_workOut e23 (by first | omega | exact outA o0 (by decide)) (by first | omega | exact outA o0 (by decide))).trans F
    cases h
    exact F
set_option maxRecDepth 20000 in
set_option maxHeartbeats 4000000 in
theorem fb_Stp_hindrance_40 {n : Nat} {x1 : Nat} {b : Nat} {r : Int32 × IM} (o0 : b < 35 ∨ 35 + 1 ≤ b)   {I : IM} (h : b_Stp_hindrance_40 n x1   I = some r) : r.2 b = I b := by
  unfold b_Stp_hindrance_40 at h
  have F : I b = I b := rfl
  refine em_f (c := (I 35 4 : Int32) = (19 : Int32)) (fun q9 => ?_) (fun q9 => ?_)
  · replace h := ite_f h q9
    cases h
    exact F
  · replace h := ite_t h q9
    obtain ⟨c10, h⟩ := chk_e h
    obtain ⟨v11, e12, h⟩ := bnd_e h
    obtain ⟨I13, hI13, h⟩ := lt_x h
    replace F := (show I13 b = _ from by first | exact fr_up hI13 (by first | omega | (intro e; subst e; revert o0; decide)) | exact fr_fil hI13 (by omega) | exact fr_cpy hI13 (by omega)).trans F
    cases h
    exact F
set_option maxRecDepth 20000 in
set_option maxHeartbeats 4000000 in
theorem fb_Stp_hindrance_20 {n : Nat} {x1 : Nat} {b : Nat} {r : Int32 × IM} (o0 : b < 35 ∨ 35 + 1 ≤ b)   {I : IM} (h : b_Stp_hindrance_20 n x1   I = some r) : r.2 b = I b := by
  unfold b_Stp_hindrance_20 at h
  have F : I b = I b := rfl
  refine em_f (c := (I 35 4 : Int32) = (18 : Int32)) (fun q7 => ?_) (fun q7 => ?_)
  · replace h := ite_f h q7
    exact (fb_Stp_hindrance_40 o0  h).trans F
  · replace h := ite_t h q7
    refine em_f (c := (I (x1 + 13) (5 : Int32).toNatClampNeg : Int32) = 0) (fun q8 => ?_) (fun q8 => ?_)
    · replace h := ite_f h q8
      exact (fb_Stp_hindrance_40 o0  h).trans F
    · replace h := ite_t h q8
      cases h
      exact F
set_option maxRecDepth 20000 in
set_option maxHeartbeats 4000000 in
theorem fr_Stp_hindrance {n : Nat} {x1 : Nat} {I : IM} {b : Nat} {r : Int32 × IM}  (h : f_Stp_hindrance n x1 I = some r) (o0 : b < 35 ∨ 35 + 1 ≤ b) : r.2 b = I b := by
  unfold f_Stp_hindrance at h
  have F : I b = I b := rfl
  obtain ⟨v1, e2, h⟩ := bnd_e h
  refine em_t (c := v1 = 0) (fun q3 => ?_) (fun q3 => ?_)
  · replace h := ite_t h q3
    exact (fb_Stp_hindrance_20 o0  h).trans F
  · replace h := ite_f h q3
    obtain ⟨v4, e5, h⟩ := bnd_e h
    refine em_f (c := v4 = 0) (fun q6 => ?_) (fun q6 => ?_)
    · replace h := ite_f h q6
      exact (fb_Stp_hindrance_20 o0  h).trans F
    · replace h := ite_t h q6
      cases h
      exact F
set_option maxRecDepth 20000 in
set_option maxHeartbeats 4000000 in
theorem fb_Stp_settle_126 {x1 : Nat} {b : Nat} {r : IM} (o0 : b < 35 ∨ 35 + 1 ≤ b)   {I : IM} (h : b_Stp_settle_126 x1   I = some r) : r b = I b := by
  unfold b_Stp_settle_126 at h
  have F : I b = I b := rfl
  cases h
  exact F
set_option maxRecDepth 20000 in
set_option maxHeartbeats 4000000 in
theorem fb_Stp_settle_123 {x1 : Nat} {b : Nat} {r : IM} (o0 : b < 35 ∨ 35 + 1 ≤ b)  {y1 : Int32} {I : IM} (h : b_Stp_settle_123 x1  y1 I = some r) : r b = I b := by
  unfold b_Stp_settle_123 at h
  have F : I b = I b := rfl
  obtain ⟨I14, hI14, h⟩ := lt_x h
  replace F := (show I14 b = _ from by first | exact fr_up hI14 (by first | omega | (intro e; subst e; revert o0; decide)) | exact fr_fil hI14 (by omega) | exact fr_cpy hI14 (by omega)).trans F
  exact (fb_Stp_settle_126 o0  h).trans F
set_option maxRecDepth 20000 in
set_option maxHeartbeats 4000000 in
theorem fb_Stp_settle_122 {x1 : Nat} {b : Nat} {r : IM} (o0 : b < 35 ∨ 35 + 1 ≤ b)   {I : IM} (h : b_Stp_settle_122 x1   I = some r) : r b = I b := by
  unfold b_Stp_settle_122 at h
  have F : I b = I b := rfl
  exact (fb_Stp_settle_123 o0  h).trans F
set_option maxRecDepth 20000 in
set_option maxHeartbeats 4000000 in
theorem fb_Stp_settle_70 {x1 : Nat} {b : Nat} {r : IM} (o0 : b < 35 ∨ 35 + 1 ≤ b)  {x2 : Int32} {y1 : Int32} {I : IM} (h : b_Stp_settle_70 x1  x2 y1 I = some r) : r b = I b := by
  unfold b_Stp_settle_70 at h
  have F : I b = I b := rfl
  obtain ⟨I6, hI6, h⟩ := lt_x h
  replace F := (show I6 b = _ from by first | exact fr_up hI6 (by first | omega | (intro e; subst e; revert o0; decide)) | exact fr_fil hI6 (by omega) | exact fr_cpy hI6 (by omega)).trans F
  refine em_t (c := (x2 &&& 4 : Int32) = 0) (fun q7 => ?_) (fun q7 => ?_)
  · replace h := ite_t h q7
    refine em_f (c := (I6 35 4 : Int32) = (12 : Int32)) (fun q8 => ?_) (fun q8 => ?_)
    · replace h := ite_f h q8
      exact (fb_Stp_settle_122 o0  h).trans F
    · replace h := ite_t h q8
      obtain ⟨v9, e10, h⟩ := bnd_e h
      refine em_t (c := v9 = 0) (fun q11 => ?_) (fun q11 => ?_)
      · replace h := ite_t h q11
        exact (fb_Stp_settle_122 o0  h).trans F
      · replace h := ite_f h q11
        obtain ⟨c12, h⟩ := chk_e h
        exact (fb_Stp_settle_123 o0  h).trans F
  · replace h := ite_f h q7
    obtain ⟨I13, hI13, h⟩ := lt_x h
    replace F := (show I13 b = _ from by first | exact fr_up hI13 (by first | omega | (intro e; subst e; revert o0; decide)) | exact fr_fil hI13 (by omega) | exact fr_cpy hI13 (by omega)).trans F
    exact (fb_Stp_settle_126 o0  h).trans F
set_option maxRecDepth 20000 in
set_option maxHeartbeats 4000000 in
theorem fb_Stp_settle_50 {x1 : Nat} {b : Nat} {r : IM} (o0 : b < 35 ∨ 35 + 1 ≤ b)  {x2 : Int32} {I : IM} (h : b_Stp_settle_50 x1  x2 I = some r) : r b = I b := by
  unfold b_Stp_settle_50 at h
  have F : I b = I b := rfl
  refine em_t (c := (x2 &&& 2 : Int32) = 0) (fun q5 => ?_) (fun q5 => ?_)
  · replace h := ite_t h q5
    exact (fb_Stp_settle_70 o0  h).trans F
  · replace h := ite_f h q5
    exact (fb_Stp_settle_70 o0  h).trans F
set_option maxRecDepth 20000 in
set_option maxHeartbeats 4000000 in
theorem fb_Stp_settle_47 {x1 : Nat} {b : Nat} {r : IM} (o0 : b < 35 ∨ 35 + 1 ≤ b)  {x2 : Int32} {y1 : Int32} {I : IM} (h : b_Stp_settle_47 x1  x2 y1 I = some r) : r b = I b := by
  unfold b_Stp_settle_47 at h
  have F : I b = I b := rfl
  obtain ⟨I15, hI15, h⟩ := lt_x h
  replace F := (show I15 b = _ from by first | exact fr_up hI15 (by first | omega | (intro e; subst e; revert o0; decide)) | exact fr_fil hI15 (by omega) | exact fr_cpy hI15 (by omega)).trans F
  exact (fb_Stp_settle_50 o0  h).trans F
set_option maxRecDepth 20000 in
set_option maxHeartbeats 4000000 in
theorem fr_Stp_settle {x1 : Nat} {x2 : Int32} {I : IM} {b : Nat} {r : IM}  (h : f_Stp_settle x1 x2 I = some r) (o0 : b < 35 ∨ 35 + 1 ≤ b) : r b = I b := by
  unfold f_Stp_settle at h
  have F : I b = I b := rfl
  refine em_t (c := (x2 &&& 1 : Int32) = 0) (fun q1 => ?_) (fun q1 => ?_)
  · replace h := ite_t h q1
    refine em_f (c := (I 35 4 : Int32) = (21 : Int32)) (fun q2 => ?_) (fun q2 => ?_)
    · replace h := ite_f h q2
      exact (fb_Stp_settle_47 o0  h).trans F
    · replace h := ite_t h q2
      obtain ⟨c3, h⟩ := chk_e h
      exact (fb_Stp_settle_47 o0  h).trans F
  · replace h := ite_f h q1
    obtain ⟨I4, hI4, h⟩ := lt_x h
    replace F := (show I4 b = _ from by first | exact fr_up hI4 (by first | omega | (intro e; subst e; revert o0; decide)) | exact fr_fil hI4 (by omega) | exact fr_cpy hI4 (by omega)).trans F
    exact (fb_Stp_settle_50 o0  h).trans F
set_option maxRecDepth 20000 in
set_option maxHeartbeats 4000000 in
theorem fb_Mch_putOut_24 {x0 : Nat} {b : Nat} {r : IM} (o0 : b < x0 ∨ x0 + 19 ≤ b)  {x2 : Int32} {I : IM} (h : b_Mch_putOut_24 x0  x2 I = some r) : r b = I b := by
  unfold b_Mch_putOut_24 at h
  have F : I b = I b := rfl
  obtain ⟨I5, hI5, h⟩ := lt_x h
  replace F := (show I5 b = _ from by first | exact fr_up hI5 (by first | omega | (intro e; subst e; revert o0; decide)) | exact fr_fil hI5 (by omega) | exact fr_cpy hI5 (by omega)).trans F
  cases h
  exact F
set_option maxRecDepth 20000 in
set_option maxHeartbeats 4000000 in
theorem fr_Mch_putOut {x0 : Nat} {x1 : Int32} {I : IM} {b : Nat} {r : IM}  (h : f_Mch_putOut x0 x1 I = some r) (o0 : b < x0 ∨ x0 + 19 ≤ b) : r b = I b := by
  unfold f_Mch_putOut at h
  have F : I b = I b := rfl
  refine em_t (c := (I (x0 + 13) (1 : Int32).toNatClampNeg : Int32) < 0) (fun q1 => ?_) (fun q1 => ?_)
  · replace h := ite_t h q1
    exact (fb_Mch_putOut_24 o0  h).trans F
  · replace h := ite_f h q1
    refine em_t (c := (40 : Int32) ≤ (I (x0 + 13) (1 : Int32).toNatClampNeg : Int32)) (fun q2 => ?_) (fun q2 => ?_)
    · replace h := ite_t h q2
      exact (fb_Mch_putOut_24 o0  h).trans F
    · replace h := ite_f h q2
      obtain ⟨c3, h⟩ := chk_e h
      obtain ⟨I4, hI4, h⟩ := lt_x h
      replace F := (show I4 b = _ from by first | exact fr_up hI4 (by first | omega | (intro e; subst e; revert o0; decide)) | exact fr_fil hI4 (by omega) | exact fr_cpy hI4 (by omega)).trans F
      exact (fb_Mch_putOut_24 o0  h).trans F
set_option maxRecDepth 20000 in
set_option maxHeartbeats 4000000 in
theorem fr_Mch_takeInput {x0 : Nat} {I : IM} {b : Nat} {r : Int32 × IM}  (h : f_Mch_takeInput x0 I = some r) (o0 : b < x0 ∨ x0 + 19 ≤ b) : r.2 b = I b := by
  unfold f_Mch_takeInput at h
  have F : I b = I b := rfl
  obtain ⟨I1, hI1, h⟩ := lt_x h
  replace F := (show I1 b = _ from by first | exact fr_up hI1 (by first | omega | (intro e; subst e; revert o0; decide)) | exact fr_fil hI1 (by omega) | exact fr_cpy hI1 (by omega)).trans F
  obtain ⟨I2, hI2, h⟩ := lt_x h
  replace F := (show I2 b = _ from by first | exact fr_up hI2 (by first | omega | (intro e; subst e; revert o0; decide)) | exact fr_fil hI2 (by omega) | exact fr_cpy hI2 (by omega)).trans F
  obtain ⟨I3, hI3, h⟩ := lt_x h
  replace F := (show I3 b = _ from by first | exact fr_up hI3 (by first | omega | (intro e; subst e; revert o0; decide)) | exact fr_fil hI3 (by omega) | exact fr_cpy hI3 (by omega)).trans F
  cases h
  exact F
set_option maxRecDepth 20000 in
set_option maxHeartbeats 4000000 in
theorem fb_Mch_handOut_33 {n : Nat} {x0 : Nat} {b : Nat} {r : IM} (o0 : b < x0 ∨ x0 + 19 ≤ b)   {I : IM} (h : b_Mch_handOut_33 n x0   I = some r) : r b = I b := by
  unfold b_Mch_handOut_33 at h
  have F : I b = I b := rfl
  cases h
  exact F
set_option maxRecDepth 20000 in
set_option maxHeartbeats 4000000 in
theorem fl_Mch_handOut_3 {n : Nat} {x0 : Nat} {b : Nat} {r : IM} (o0 : b < x0 ∨ x0 + 19 ≤ b)  : ∀ (f : Nat) (x1 : Int32) (x2 : Int32) (x3 : Int32) (x4 : Int32) (I : IM), l_Mch_handOut_3 n x0  f x1 x2 x3 x4 I = some r → r b = I b
  | 0, _, _, _, _, _, h => by cases h
  | f + 1, x1, x2, x3, x4, I, h => by
    have ih := fl_Mch_handOut_3 (b := b) (r := r) (n := n) (x0 := x0)  o0 f
    rw [l_Mch_handOut_3] at h
    have F : I b = I b := rfl
    refine em_t (c := x2 ≤ x4) (fun q1 => ?_) (fun q1 => ?_)
    · replace h := ite_t h q1
      exact (fb_Mch_handOut_33 o0  h).trans F
    · replace h := ite_f h q1
      refine em_t (c := (16 : Int32) ≤ x4) (fun q2 => ?_) (fun q2 => ?_)
      · replace h := ite_t h q2
        exact (fb_Mch_handOut_33 o0  h).trans F
      · replace h := ite_f h q2
        obtain ⟨v3, e4, h⟩ := bnd_e h
        replace F := (fr_Mch_setWord e4 (by first | omega | exact outA o0 (by decide))).trans F
        exact (ih _ _ _ _ _ h).trans F
set_option maxRecDepth 20000 in
set_option maxHeartbeats 4000000 in
theorem fr_Mch_handOut {n : Nat} {x0 : Nat} {x1 : Int32} {x2 : Int32} {x3 : Int32} {I : IM} {b : Nat} {r : IM}  (h : f_Mch_handOut n x0 x1 x2 x3 I = some r) (o0 : b < x0 ∨ x0 + 19 ≤ b) : r b = I b := by
  unfold f_Mch_handOut at h
  have F : I b = I b := rfl
  exact (fl_Mch_handOut_3 o0  _ _ _ _ _ _ h).trans F
set_option maxRecDepth 20000 in
set_option maxHeartbeats 4000000 in
theorem fb_Mch_free_25 {n : Nat} {x0 : Nat} {b : Nat} {r : IM} (o0 : b < x0 ∨ x0 + 19 ≤ b) {H2 : Int32 → Int32 → IM → Option (IM)} (hH2 : ∀ (x1 : Int32) (x2 : Int32) (I : IM), H2 x1 x2 I = some r → r b = I b) {x1 : Int32} {x2 : Int32} {I : IM} (h : b_Mch_free_25 n x0 H2 x1 x2 I = some r) : r b = I b := by
  unfold b_Mch_free_25 at h
  have F : I b = I b := rfl
  exact (hH2 _ _ _ h).trans F
set_option maxRecDepth 20000 in
set_option maxHeartbeats 4000000 in
theorem fl_Mch_free_2 {n : Nat} {x0 : Nat} {b : Nat} {r : IM} (o0 : b < x0 ∨ x0 + 19 ≤ b)  : ∀ (f : Nat) (x1 : Int32) (x2 : Int32) (I : IM), l_Mch_free_2 n x0  f x1 x2 I = some r → r b = I b
  | 0, _, _, _, h => by cases h
  | f + 1, x1, x2, I, h => by
    have ih := fl_Mch_free_2 (b := b) (r := r) (n := n) (x0 := x0)  o0 f
    rw [l_Mch_free_2] at h
    have F : I b = I b := rfl
    refine em_t (c := (96 : Int32) ≤ x2) (fun q1 => ?_) (fun q1 => ?_)
    · replace h := ite_t h q1
      cases h
      exact F
    · replace h := ite_f h q1
      obtain ⟨c2, h⟩ := chk_e h
      refine em_f (c := (I (x0 + 5) x2.toNatClampNeg : Int32) = x1) (fun q3 => ?_) (fun q3 => ?_)
      · replace h := ite_f h q3
        exact (fb_Mch_free_25 o0 ih h).trans F
      · replace h := ite_t h q3
        obtain ⟨I4, hI4, h⟩ := lt_x h
        replace F := (show I4 b = _ from by first | exact fr_up hI4 (by first | omega | (intro e; subst e; revert o0; decide)) | exact fr_fil hI4 (by omega) | exact fr_cpy hI4 (by omega)).trans F
        exact (fb_Mch_free_25 o0 ih h).trans F
set_option maxRecDepth 20000 in
set_option maxHeartbeats 4000000 in
theorem fr_Mch_free {n : Nat} {x0 : Nat} {x1 : Int32} {I : IM} {b : Nat} {r : IM}  (h : f_Mch_free n x0 x1 I = some r) (o0 : b < x0 ∨ x0 + 19 ≤ b) : r b = I b := by
  unfold f_Mch_free at h
  have F : I b = I b := rfl
  exact (fl_Mch_free_2 o0  _ _ _ _ h).trans F
set_option maxRecDepth 20000 in
set_option maxHeartbeats 4000000 in
theorem fb_Stp_perform_317 {n : Nat} {x1 : Nat} {b : Nat} {r : IM} (o0 : b < x1 ∨ x1 + 19 ≤ b)  {x3 : Int32} {I : IM} (h : b_Stp_perform_317 n x1  x3 I = some r) : r b = I b := by
  unfold b_Stp_perform_317 at h
  have F : I b = I b := rfl
  obtain ⟨v50, e51, h⟩ := bnd_e h
  replace F := (fr_Mch_setRegister e51 (by first | omega | exact outA o0 (by decide))).trans F
  cases h
  exact F
set_option maxRecDepth 20000 in
set_option maxHeartbeats 4000000 in
theorem fb_Stp_perform_300 {n : Nat} {x1 : Nat} {b : Nat} {r : IM} (o0 : b < x1 ∨ x1 + 19 ≤ b)  {x3 : Int32} {I : IM} (h : b_Stp_perform_300 n x1  x3 I = some r) : r b = I b := by
  unfold b_Stp_perform_300 at h
  have F : I b = I b := rfl
  obtain ⟨v46, e47, h⟩ := bnd_e h
  obtain ⟨v48, e49, h⟩ := bnd_e h
  replace F := (fr_Mch_setRegister e49 (by first | omega | exact outA o0 (by decide))).trans F
  exact (fb_Stp_perform_317 o0  h).trans F
set_option maxRecDepth 20000 in
set_option maxHeartbeats 4000000 in
theorem fr_Stp_perform {n : Nat} {x1 : Nat} {I : IM} {b : Nat} {r : IM}  (h : f_Stp_perform n x1 I = some r) (o0 : b < x1 ∨ x1 + 19 ≤ b) : r b = I b := by
  unfold f_Stp_perform at h
  have F : I b = I b := rfl
  refine em_t (c := (I 35 4 : Int32) = 0) (fun q2 => ?_) (fun q2 => ?_)
  · replace h := ite_t h q2
    exact (fb_Stp_perform_317 o0  h).trans F
  · replace h := ite_f h q2
    refine em_t (c := (I 35 4 : Int32) = 1) (fun q3 => ?_) (fun q3 => ?_)
    · replace h := ite_t h q3
      exact (fb_Stp_perform_300 o0  h).trans F
    · replace h := ite_f h q3
      refine em_t (c := (I 35 4 : Int32) = 2) (fun q4 => ?_) (fun q4 => ?_)
      · replace h := ite_t h q4
        exact (fb_Stp_perform_300 o0  h).trans F
      · replace h := ite_f h q4
        refine em_t (c := (I 35 4 : Int32) = 3) (fun q5 => ?_) (fun q5 => ?_)
        · replace h := ite_t h q5
          exact (fb_Stp_perform_300 o0  h).trans F
        · replace h := ite_f h q5
          refine em_t (c := (I 35 4 : Int32) = 4) (fun q6 => ?_) (fun q6 => ?_)
          · replace h := ite_t h q6
            exact (fb_Stp_perform_300 o0  h).trans F
          · replace h := ite_f h q6
            refine em_t (c := (I 35 4 : Int32) = 5) (fun q7 => ?_) (fun q7 => ?_)
            · replace h := ite_t h q7
              exact (fb_Stp_perform_300 o0  h).trans F
            · replace h := ite_f h q7
              refine em_t (c := (I 35 4 : Int32) = 6) (fun q8 => ?_) (fun q8 => ?_)
              · replace h := ite_t h q8
                exact (fb_Stp_perform_300 o0  h).trans F
              · replace h := ite_f h q8
                refine em_t (c := (I 35 4 : Int32) = 7) (fun q9 => ?_) (fun q9 => ?_)
                · replace h := ite_t h q9
                  exact (fb_Stp_perform_300 o0  h).trans F
                · replace h := ite_f h q9
                  refine em_t (c := (I 35 4 : Int32) = 8) (fun q10 => ?_) (fun q10 => ?_)
                  · replace h := ite_t h q10
                    exact (fb_Stp_perform_300 o0  h).trans F
                  · replace h := ite_f h q10
                    refine em_t (c := (I 35 4 : Int32) = 9) (fun q11 => ?_) (fun q11 => ?_)
                    · replace h := ite_t h q11
                      exact (fb_Stp_perform_300 o0  h).trans F
                    · replace h := ite_f h q11
                      refine em_t (c := (I 35 4 : Int32) = 10) (fun q12 => ?_) (fun q12 => ?_)
                      · replace h := ite_t h q12
                        exact (fb_Stp_perform_300 o0  h).trans F
                      · replace h := ite_f h q12
                        refine em_t (c := (I 35 4 : Int32) = 11) (fun q13 => ?_) (fun q13 => ?_)
                        · replace h := ite_t h q13
                          exact (fb_Stp_perform_300 o0  h).trans F
                        · replace h := ite_f h q13
                          refine em_t (c := (I 35 4 : Int32) = 12) (fun q14 => ?_) (fun q14 => ?_)
                          · replace h := ite_t h q14
                            obtain ⟨c15, h⟩ := chk_e h
                            obtain ⟨v16, e17, h⟩ := bnd_e h
                            replace F := (fr_Mch_setWord e17 (by first | omega | exact outA o0 (by decide))).trans F
                            exact (fb_Stp_perform_317 o0  h).trans F
                          · replace h := ite_f h q14
                            refine em_t (c := (I 35 4 : Int32) = 13) (fun q18 => ?_) (fun q18 => ?_)
                            · replace h := ite_t h q18
                              exact (fb_Stp_perform_317 o0  h).trans F
                            · replace h := ite_f h q18
                              refine em_t (c := (I 35 4 : Int32) = 14) (fun q19 => ?_) (fun q19 => ?_)
                              · replace h := ite_t h q19
                                obtain ⟨c20, h⟩ := chk_e h
                                exact (fb_Stp_perform_317 o0  h).trans F
                              · replace h := ite_f h q19
                                refine em_t (c := (I 35 4 : Int32) = 15) (fun q22 => ?_) (fun q22 => ?_)
                                · replace h := ite_t h q22
                                  obtain ⟨c23, h⟩ := chk_e h
                                  exact (fb_Stp_perform_317 o0  h).trans F
                                · replace h := ite_f h q22
                                  refine em_t (c := (I 35 4 : Int32) = 16) (fun q24 => ?_) (fun q24 => ?_)
                                  · replace h := ite_t h q24
                                    obtain ⟨v25, e26, h⟩ := bnd_e h
                                    replace F := (fr_Mch_setRegister e26 (by first | omega | exact outA o0 (by decide))).trans F
                                    exact (fb_Stp_perform_317 o0  h).trans F
                                  · replace h := ite_f h q24
                                    refine em_t (c := (I 35 4 : Int32) = 17) (fun q27 => ?_) (fun q27 => ?_)
                                    · replace h := ite_t h q27
                                      obtain ⟨c28, h⟩ := chk_e h
                                      obtain ⟨v29, e30, h⟩ := bnd_e h
                                      replace F := (fr_Mch_putOut e30 (by first | omega | exact outA o0 (by decide))).trans F
                                      exact (fb_Stp_perform_317 o0  h).trans F
                                    · replace h := ite_f h q27
                                      refine em_t (c := (I 35 4 : Int32) = 18) (fun q31 => ?_) (fun q31 => ?_)
                                      · replace h := ite_t h q31
                                        obtain ⟨v32, e33, h⟩ := bnd_e h
                                        replace F := (fr_Mch_takeInput e33 (by first | omega | exact outA o0 (by decide))).trans F
                                        obtain ⟨v34, e35, h⟩ := bnd_e h
                                        replace F := (fr_Mch_setRegister e35 (by first | omega | exact outA o0 (by decide))).trans F
                                        exact (fb_Stp_perform_317 o0  h).trans F
                                      · replace h := ite_f h q31
                                        refine em_t (c := (I 35 4 : Int32) = 19) (fun q36 => ?_) (fun q36 => ?_)
                                        · replace h := ite_t h q36
                                          obtain ⟨c37, h⟩ := chk_e h
                                          obtain ⟨v38, e39, h⟩ := bnd_e h
                                          replace F := (fr_Mch_handOut e39 (by first | omega | exact outA o0 (by decide))).trans F
                                          obtain ⟨I40, hI40, h⟩ := lt_x h
                                          replace F := (show I40 b = _ from by first | exact fr_up hI40 (by first | omega | (intro e; subst e; revert o0; decide)) | exact fr_fil hI40 (by omega) | exact fr_cpy hI40 (by omega)).trans F
                                          obtain ⟨v41, e42, h⟩ := bnd_e h
                                          replace F := (fr_Mch_setRegister e42 (by first | omega | exact outA o0 (by decide))).trans F
                                          exact (fb_Stp_perform_317 o0  h).trans F
                                        · replace h := ite_f h q36
                                          refine em_t (c := (I 35 4 : Int32) = 20) (fun q43 => ?_) (fun q43 => ?_)
                                          · replace h := ite_t h q43
                                            obtain ⟨v44, e45, h⟩ := bnd_e h
                                            replace F := (fr_Mch_free e45 (by first | omega | exact outA o0 (by decide))).trans F
                                            exact (fb_Stp_perform_317 o0  h).trans F
                                          · replace h := ite_f h q43
                                            exact (fb_Stp_perform_300 o0  h).trans F
set_option maxRecDepth 20000 in
set_option maxHeartbeats 4000000 in
theorem fb_Stp_tryOut_32 {n : Nat} {x1 : Nat} {x2 : Nat} {b : Nat} {r : Int32 × IM} (o0 : b < 35 ∨ 35 + 1 ≤ b) (o1 : b < x1 ∨ x1 + 19 ≤ b) (o2 : b < 36 ∨ 36 + 3 ≤ b)   {I : IM} (h : b_Stp_tryOut_32 n x1 x2   I = some r) : r.2 b = I b := by
  unfold b_Stp_tryOut_32 at h
  have F : I b = I b := rfl
  cases h
  exact F
set_option maxRecDepth 20000 in
set_option maxHeartbeats 4000000 in
theorem fb_Stp_tryOut_127 {n : Nat} {x1 : Nat} {x2 : Nat} {b : Nat} {r : Int32 × IM} (o0 : b < 35 ∨ 35 + 1 ≤ b) (o1 : b < x1 ∨ x1 + 19 ≤ b) (o2 : b < 36 ∨ 36 + 3 ≤ b)  {x3 : Int32} {I : IM} (h : b_Stp_tryOut_127 n x1 x2  x3 I = some r) : r.2 b = I b := by
  unfold b_Stp_tryOut_127 at h
  have F : I b = I b := rfl
  refine em_t (c := x3 = 0) (fun q22 => ?_) (fun q22 => ?_)
  · replace h := ite_t h q22
    obtain ⟨c23, h⟩ := chk_e h
    obtain ⟨v24, e25, h⟩ := bnd_e h
    replace F := (fr_Stp_settle e25 (by first | omega | exact outA o0 (by decide))).trans F
    obtain ⟨v26, e27, h⟩ := bnd_e h
    replace F := (fr_Stp_perform e27 (by first | omega | exact outA o0 (by decide))).trans F
    cases h
    exact F
  · replace h := ite_f h q22
    cases h
    exact F
set_option maxRecDepth 20000 in
set_option maxHeartbeats 4000000 in
theorem fr_Stp_tryOut {n : Nat} {x1 : Nat} {x2 : Nat} {I : IM} {b : Nat} {r : Int32 × IM}  (h : f_Stp_tryOut n x1 x2 I = some r) (o0 : b < 35 ∨ 35 + 1 ≤ b) (o1 : b < x1 ∨ x1 + 19 ≤ b) (o2 : b < 36 ∨ 36 + 3 ≤ b) : r.2 b = I b := by
  unfold f_Stp_tryOut at h
  have F : I b = I b := rfl
  obtain ⟨I1, hI1, h⟩ := lt_x h
  replace F := (show I1 b = _ from by first | exact fr_up hI1 (by first | omega | (intro e; subst e; revert o0; decide)) | exact fr_fil hI1 (by omega) | exact fr_cpy hI1 (by omega)).trans F
  obtain ⟨I2, hI2, h⟩ := lt_x h
  replace F := (show I2 b = _ from by first | exact fr_up hI2 (by first | omega | (intro e; subst e; revert o0; decide)) | exact fr_fil hI2 (by omega) | exact fr_cpy hI2 (by omega)).trans F
  refine em_t (c := (I2 35 2 : Int32) < 0) (fun q3 => ?_) (fun q3 => ?_)
  · replace h := ite_t h q3
    exact (fb_Stp_tryOut_32 o0 o1 o2  h).trans F
  · replace h := ite_f h q3
    refine em_t (c := (I2 35 2 : Int32) < (64 : Int32)) (fun q4 => ?_) (fun q4 => ?_)
    · replace h := ite_t h q4
      obtain ⟨c5, h⟩ := chk_e h
      obtain ⟨v6, e7, h⟩ := bnd_e h
      replace F := (fr_Stp_decode e7 (by first | omega | exact outA o0 (by decide))).trans F
      obtain ⟨c8, h⟩ := chk_e h
      obtain ⟨I9, hI9, h⟩ := lt_x h
      replace F := (show I9 b = _ from by first | exact fr_up hI9 (by first | omega | (intro e; subst e; revert o0; decide)) | exact fr_fil hI9 (by omega) | exact fr_cpy hI9 (by omega)).trans F
      obtain ⟨v10, e11, h⟩ := bnd_e h
      refine em_f (c := v10 = 0) (fun q12 => ?_) (fun q12 => ?_)
      · replace h := ite_f h q12
        obtain ⟨c13, h⟩ := chk_e h
        obtain ⟨v14, e15, h⟩ := bnd_e h
        replace F := (fr_Stp_fillQuestion e15 (by first | omega | exact outA o0 (by decide))).trans F
        obtain ⟨v16, e17, h⟩ := bnd_e h
        replace F := (fr_Stp_ask e17 (by first | omega | exact outA o0 (by decide)) (by first | omega | exact outA o0 (by decide)) (by first | omega | exact outA o0 (by decide))).trans F
        obtain ⟨I18, hI18, h⟩ := lt_x h
        replace F := (show I18 b = _ from by first | exact fr_up hI18 (by first | omega | (intro e; subst e; revert o0; decide)) | exact fr_fil hI18 (by omega) | exact fr_cpy hI18 (by omega)).trans F
        refine em_f (c := (v16 37 (1 : Int32).toNatClampNeg : Int32) = 0) (fun q19 => ?_) (fun q19 => ?_)
        · replace h := ite_f h q19
          exact (fb_Stp_tryOut_127 o0 o1 o2  h).trans F
        · replace h := ite_t h q19
          obtain ⟨v20, e21, h⟩ := bnd_e h
          replace F := (fr_Stp_hindrance e21 (by first | omega | exact outA o0 (by decide))).trans F
          exact (fb_Stp_tryOut_127 o0 o1 o2  h).trans F
      · replace h := ite_t h q12
        cases h
        exact F
    · replace h := ite_f h q4
      exact (fb_Stp_tryOut_32 o0 o1 o2  h).trans F
set_option maxRecDepth 20000 in
set_option maxHeartbeats 4000000 in
theorem fr_Stp_noteEntry {x1 : Nat} {x2 : Int32} {I : IM} {b : Nat} {r : IM}  (h : f_Stp_noteEntry x1 x2 I = some r) (o0 : b < 39 ∨ 39 + 1 ≤ b) (o1 : b < x1 ∨ x1 + 19 ≤ b) : r b = I b := by
  unfold f_Stp_noteEntry at h
  have F : I b = I b := rfl
  obtain ⟨I1, hI1, h⟩ := lt_x h
  replace F := (show I1 b = _ from by first | exact fr_up hI1 (by first | omega | (intro e; subst e; revert o0; decide)) | exact fr_fil hI1 (by omega) | exact fr_cpy hI1 (by omega)).trans F
  obtain ⟨I2, hI2, h⟩ := lt_x h
  replace F := (show I2 b = _ from by first | exact fr_up hI2 (by first | omega | (intro e; subst e; revert o0; decide)) | exact fr_fil hI2 (by omega) | exact fr_cpy hI2 (by omega)).trans F
  obtain ⟨I3, hI3, h⟩ := lt_x h
  replace F := (show I3 b = _ from by first | exact fr_up hI3 (by first | omega | (intro e; subst e; revert o0; decide)) | exact fr_fil hI3 (by omega) | exact fr_cpy hI3 (by omega)).trans F
  obtain ⟨I4, hI4, h⟩ := lt_x h
  replace F := (show I4 b = _ from by first | exact fr_up hI4 (by first | omega | (intro e; subst e; revert o0; decide)) | exact fr_fil hI4 (by omega) | exact fr_cpy hI4 (by omega)).trans F
  obtain ⟨I5, hI5, h⟩ := lt_x h
  replace F := (show I5 b = _ from by first | exact fr_up hI5 (by first | omega | (intro e; subst e; revert o0; decide)) | exact fr_fil hI5 (by omega) | exact fr_cpy hI5 (by omega)).trans F
  obtain ⟨I6, hI6, h⟩ := lt_x h
  replace F := (show I6 b = _ from by first | exact fr_up hI6 (by first | omega | (intro e; subst e; revert o0; decide)) | exact fr_fil hI6 (by omega) | exact fr_cpy hI6 (by omega)).trans F
  obtain ⟨v7, e8, h⟩ := bnd_e h
  replace F := (fr_Rng_add e8 (by first | omega | exact outA o0 (by decide))).trans F
  cases h
  exact F
set_option maxRecDepth 20000 in
set_option maxHeartbeats 4000000 in
theorem fb_Stp_attempt_90 {n : Nat} {x1 : Nat} {x2 : Nat} {b : Nat} {r : Int32 × IM} (o0 : b < 35 ∨ 35 + 1 ≤ b) (o1 : b < x1 ∨ x1 + 19 ≤ b) (o2 : b < 36 ∨ 36 + 3 ≤ b) (o3 : b < 39 ∨ 39 + 1 ≤ b)  {x3 : Int32} {x4 : Int32} {I : IM} (h : b_Stp_attempt_90 n x1 x2  x3 x4 I = some r) : r.2 b = I b := by
  unfold b_Stp_attempt_90 at h
  have F : I b = I b := rfl
  obtain ⟨v16, e17, h⟩ := bnd_e h
  replace F := (fr_Stp_noteEntry e17 (by first | omega | exact outA o0 (by decide)) (by first | omega | exact outA o0 (by decide))).trans F
  obtain ⟨c18, h⟩ := chk_e h
  cases h
  exact F
set_option maxRecDepth 20000 in
set_option maxHeartbeats 4000000 in
theorem fb_Stp_attempt_68 {n : Nat} {x1 : Nat} {x2 : Nat} {b : Nat} {r : Int32 × IM} (o0 : b < 35 ∨ 35 + 1 ≤ b) (o1 : b < x1 ∨ x1 + 19 ≤ b) (o2 : b < 36 ∨ 36 + 3 ≤ b) (o3 : b < 39 ∨ 39 + 1 ≤ b)  {x3 : Int32} {x4 : Int32} {I : IM} (h : b_Stp_attempt_68 n x1 x2  x3 x4 I = some r) : r.2 b = I b := by
  unfold b_Stp_attempt_68 at h
  have F : I b = I b := rfl
  refine em_t (c := (I 35 11 : Int32) = 0) (fun q12 => ?_) (fun q12 => ?_)
  · replace h := ite_t h q12
    exact (fb_Stp_attempt_90 o0 o1 o2 o3  h).trans F
  · replace h := ite_f h q12
    obtain ⟨v14, e15, h⟩ := bnd_e h
    replace F := (fr_Stp_addCount e15 (by first | omega | exact outA o0 (by decide))).trans F
    exact (fb_Stp_attempt_90 o0 o1 o2 o3  h).trans F
set_option maxRecDepth 20000 in
set_option maxHeartbeats 4000000 in
theorem fr_Stp_attempt {n : Nat} {x1 : Nat} {x2 : Nat} {I : IM} {b : Nat} {r : Int32 × IM}  (h : f_Stp_attempt n x1 x2 I = some r) (o0 : b < 35 ∨ 35 + 1 ≤ b) (o1 : b < x1 ∨ x1 + 19 ≤ b) (o2 : b < 36 ∨ 36 + 3 ≤ b) (o3 : b < 39 ∨ 39 + 1 ≤ b) : r.2 b = I b := by
  unfold f_Stp_attempt at h
  have F : I b = I b := rfl
  obtain ⟨I1, hI1, h⟩ := lt_x h
  replace F := (show I1 b = _ from by first | exact fr_up hI1 (by first | omega | (intro e; subst e; revert o0; decide)) | exact fr_fil hI1 (by omega) | exact fr_cpy hI1 (by omega)).trans F
  obtain ⟨I2, hI2, h⟩ := lt_x h
  replace F := (show I2 b = _ from by first | exact fr_up hI2 (by first | omega | (intro e; subst e; revert o0; decide)) | exact fr_fil hI2 (by omega) | exact fr_cpy hI2 (by omega)).trans F
  obtain ⟨I3, hI3, h⟩ := lt_x h
  replace F := (show I3 b = _ from by first | exact fr_up hI3 (by first | omega | (intro e; subst e; revert o0; decide)) | exact fr_fil hI3 (by omega) | exact fr_cpy hI3 (by omega)).trans F
  obtain ⟨v4, e5, h⟩ := bnd_e h
  replace F := (fr_Stp_tryOut e5 (by first | omega | exact outA o0 (by decide)) (by first | omega | exact outA o0 (by decide)) (by first | omega | exact outA o0 (by decide))).trans F
  obtain ⟨I8, hI8, h⟩ := lt_x h
  replace F := (show I8 b = _ from by first | exact fr_up hI8 (by first | omega | (intro e; subst e; revert o0; decide)) | exact fr_fil hI8 (by omega) | exact fr_cpy hI8 (by omega)).trans F
  refine em_t (c := (if (v4.1 : Int32) = 0 then 1 else (if (v4.1 : Int32) = (1 : Int32) then 1 else 0) : Int32) = 0) (fun q9 => ?_) (fun q9 => ?_)
  · replace h := ite_t h q9
    exact (fb_Stp_attempt_68 o0 o1 o2 o3  h).trans F
  · replace h := ite_f h q9
    obtain ⟨I10, hI10, h⟩ := lt_x h
    replace F := (show I10 b = _ from by first | exact fr_up hI10 (by first | omega | (intro e; subst e; revert o0; decide)) | exact fr_fil hI10 (by omega) | exact fr_cpy hI10 (by omega)).trans F
    obtain ⟨I11, hI11, h⟩ := lt_x h
    replace F := (show I11 b = _ from by first | exact fr_up hI11 (by first | omega | (intro e; subst e; revert o0; decide)) | exact fr_fil hI11 (by omega) | exact fr_cpy hI11 (by omega)).trans F
    exact (fb_Stp_attempt_68 o0 o1 o2 o3  h).trans F
set_option maxRecDepth 20000 in
set_option maxHeartbeats 4000000 in
theorem fb_Eng_run_11 {n : Nat} {rl : Nat} {hd : Nat} {b : Nat} {r : Int32 × IM} (o0 : b < 35 ∨ 35 + 1 ≤ b) (o1 : b < hd ∨ hd + 19 ≤ b) (o2 : b < 36 ∨ 36 + 3 ≤ b) (o3 : b < 39 ∨ 39 + 1 ≤ b)   {I : IM} (h : b_Eng_run_11 n rl hd   I = some r) : r.2 b = I b := by
  unfold b_Eng_run_11 at h
  have F : I b = I b := rfl
  cases h
set_option maxRecDepth 20000 in
set_option maxHeartbeats 4000000 in
theorem fb_Eng_run_112 {n : Nat} {rl : Nat} {hd : Nat} {b : Nat} {r : Int32 × IM} (o0 : b < 35 ∨ 35 + 1 ≤ b) (o1 : b < hd ∨ hd + 19 ≤ b) (o2 : b < 36 ∨ 36 + 3 ≤ b) (o3 : b < 39 ∨ 39 + 1 ≤ b)  {x2 : Int32} {I : IM} (h : b_Eng_run_112 n rl hd  x2 I = some r) : r.2 b = I b := by
  unfold b_Eng_run_112 at h
  have F : I b = I b := rfl
  cases h
  exact F
set_option maxRecDepth 20000 in
set_option maxHeartbeats 4000000 in
theorem fl_Eng_run_60 {n : Nat} {rl : Nat} {hd : Nat} {b : Nat} {r : Int32 × IM} (o0 : b < 35 ∨ 35 + 1 ≤ b) (o1 : b < hd ∨ hd + 19 ≤ b) (o2 : b < 36 ∨ 36 + 3 ≤ b) (o3 : b < 39 ∨ 39 + 1 ≤ b)  : ∀ (f : Nat) (x1 : Int32) (x2 : Int32) (x3 : Int32) (I : IM), l_Eng_run_60 n rl hd  f x1 x2 x3 I = some r → r.2 b = I b
  | 0, _, _, _, _, h => by cases h
  | f + 1, x1, x2, x3, I, h => by
    have ih := fl_Eng_run_60 (b := b) (r := r) (n := n) (rl := rl) (hd := hd)  o0 o1 o2 o3 f
    rw [l_Eng_run_60] at h
    have F : I b = I b := rfl
    refine em_t (c := x1 ≤ x3) (fun q5 => ?_) (fun q5 => ?_)
    · replace h := ite_t h q5
      exact (fb_Eng_run_112 o0 o1 o2 o3  h).trans F
    · replace h := ite_f h q5
      obtain ⟨v6, e7, h⟩ := bnd_e h
      replace F := (fr_Stp_attempt e7 (by first | omega | exact outA o0 (by decide)) (by first | omega | exact outA o0 (by decide)) (by first | omega | exact outA o0 (by decide)) (by first | omega | exact outA o0 (by decide))).trans F
      refine em_t (c := (v6.2 (hd + 13) (0 : Int32).toNatClampNeg : Int32) = 0) (fun q9 => ?_) (fun q9 => ?_)
      · replace h := ite_t h q9
        exact (ih _ _ _ _ h).trans F
      · replace h := ite_f h q9
        exact (fb_Eng_run_112 o0 o1 o2 o3  h).trans F
set_option maxRecDepth 20000 in
set_option maxHeartbeats 4000000 in
theorem fb_Eng_run_56 {n : Nat} {rl : Nat} {hd : Nat} {b : Nat} {r : Int32 × IM} (o0 : b < 35 ∨ 35 + 1 ≤ b) (o1 : b < hd ∨ hd + 19 ≤ b) (o2 : b < 36 ∨ 36 + 3 ≤ b) (o3 : b < 39 ∨ 39 + 1 ≤ b)  {x1 : Int32} {I : IM} (h : b_Eng_run_56 n rl hd  x1 I = some r) : r.2 b = I b := by
  unfold b_Eng_run_56 at h
  have F : I b = I b := rfl
  exact (fl_Eng_run_60 o0 o1 o2 o3  _ _ _ _ _ h).trans F
set_option maxRecDepth 20000 in
set_option maxHeartbeats 4000000 in
theorem fr_Eng_run {n : Nat} {rl : Nat} {hd : Nat} {x1 : Int32} {I : IM} {b : Nat} {r : Int32 × IM}  (h : f_Eng_run n rl hd x1 I = some r) (o0 : b < 35 ∨ 35 + 1 ≤ b) (o1 : b < hd ∨ hd + 19 ≤ b) (o2 : b < 36 ∨ 36 + 3 ≤ b) (o3 : b < 39 ∨ 39 + 1 ≤ b) : r.2 b = I b := by
  unfold f_Eng_run at h
  have F : I b = I b := rfl
  refine em_t (c := x1 < 0) (fun q1 => ?_) (fun q1 => ?_)
  · replace h := ite_t h q1
    exact (fb_Eng_run_11 o0 o1 o2 o3  h).trans F
  · replace h := ite_f h q1
    refine em_t (c := x1 ≤ (2000 : Int32)) (fun q2 => ?_) (fun q2 => ?_)
    · replace h := ite_t h q2
      refine em_t (c := (I (hd + 13) (0 : Int32).toNatClampNeg : Int32) = 0) (fun q3 => ?_) (fun q3 => ?_)
      · replace h := ite_t h q3
        exact (fb_Eng_run_56 o0 o1 o2 o3  h).trans F
      · replace h := ite_f h q3
        refine em_t (c := (I (hd + 13) (0 : Int32).toNatClampNeg : Int32) = (5 : Int32)) (fun q4 => ?_) (fun q4 => ?_)
        · replace h := ite_t h q4
          exact (fb_Eng_run_56 o0 o1 o2 o3  h).trans F
        · replace h := ite_f h q4
          cases h
    · replace h := ite_f h q2
      exact (fb_Eng_run_11 o0 o1 o2 o3  h).trans F
set_option maxRecDepth 20000 in
set_option maxHeartbeats 4000000 in
theorem fr_Eng_copyRow {x0 : Nat} {x1 : Nat} {I : IM} {b : Nat} {r : IM}  (h : f_Eng_copyRow x0 x1 I = some r) (o0 : b < x1 ∨ x1 + 1 ≤ b) : r b = I b := by
  unfold f_Eng_copyRow at h
  have F : I b = I b := rfl
  obtain ⟨c2, h⟩ := chk_e h
  obtain ⟨c3, h⟩ := chk_e h
  obtain ⟨c4, h⟩ := chk_e h
  obtain ⟨I1, hI1, h⟩ := lt_x h
  replace F := (show I1 b = _ from by first | exact fr_up hI1 (by first | omega | (intro e; subst e; revert o0; decide)) | exact fr_fil hI1 (by omega) | exact fr_cpy hI1 (by omega)).trans F
  cases h
  exact F
set_option maxRecDepth 20000 in
set_option maxHeartbeats 4000000 in
theorem fr_Pol_become {x0 : Nat} {x1 : Nat} {I : IM} {b : Nat} {r : IM}  (h : f_Pol_become x0 x1 I = some r) (o0 : b < x0 ∨ x0 + 7 ≤ b) : r b = I b := by
  unfold f_Pol_become at h
  have F : I b = I b := rfl
  obtain ⟨I1, hI1, h⟩ := lt_x h
  replace F := (show I1 b = _ from by first | exact fr_up hI1 (by first | omega | (intro e; subst e; revert o0; decide)) | exact fr_fil hI1 (by omega) | exact fr_cpy hI1 (by omega)).trans F
  obtain ⟨v2, e3, h⟩ := bnd_e h
  replace F := (fr_Eng_copyRow e3 (by first | omega | exact outA o0 (by decide))).trans F
  obtain ⟨v4, e5, h⟩ := bnd_e h
  replace F := (fr_Eng_copyRow e5 (by first | omega | exact outA o0 (by decide))).trans F
  obtain ⟨v6, e7, h⟩ := bnd_e h
  replace F := (fr_Eng_copyRow e7 (by first | omega | exact outA o0 (by decide))).trans F
  obtain ⟨v8, e9, h⟩ := bnd_e h
  replace F := (fr_Eng_copyRow e9 (by first | omega | exact outA o0 (by decide))).trans F
  obtain ⟨v10, e11, h⟩ := bnd_e h
  replace F := (fr_Eng_copyRow e11 (by first | omega | exact outA o0 (by decide))).trans F
  obtain ⟨v12, e13, h⟩ := bnd_e h
  replace F := (fr_Eng_copyRow e13 (by first | omega | exact outA o0 (by decide))).trans F
  cases h
  exact F
set_option maxRecDepth 20000 in
set_option maxHeartbeats 4000000 in
theorem fr_Eng_keep {rl : Nat} {I : IM} {b : Nat} {r : IM}  (h : f_Eng_keep rl I = some r) (o0 : b < 48 ∨ 48 + 7 ≤ b) : r b = I b := by
  unfold f_Eng_keep at h
  have F : I b = I b := rfl
  obtain ⟨v1, e2, h⟩ := bnd_e h
  replace F := (fr_Pol_become e2 (by first | omega | exact outA o0 (by decide))).trans F
  cases h
  exact F
set_option maxRecDepth 20000 in
set_option maxHeartbeats 4000000 in
theorem fr_Cmp_startCases {x1 : Int32} {x2 : Int32} {x3 : Int32} {I : IM} {b : Nat} {r : IM}  (h : f_Cmp_startCases x1 x2 x3 I = some r) (o0 : b < 40 ∨ 40 + 1 ≤ b) (o1 : b < 41 ∨ 41 + 1 ≤ b) : r b = I b := by
  unfold f_Cmp_startCases at h
  have F : I b = I b := rfl
  obtain ⟨I1, hI1, h⟩ := lt_x h
  replace F := (show I1 b = _ from by first | exact fr_up hI1 (by first | omega | (intro e; subst e; revert o0; decide)) | exact fr_fil hI1 (by omega) | exact fr_cpy hI1 (by omega)).trans F
  obtain ⟨I2, hI2, h⟩ := lt_x h
  replace F := (show I2 b = _ from by first | exact fr_up hI2 (by first | omega | (intro e; subst e; revert o0; decide)) | exact fr_fil hI2 (by omega) | exact fr_cpy hI2 (by omega)).trans F
  obtain ⟨I3, hI3, h⟩ := lt_x h
  replace F := (show I3 b = _ from by first | exact fr_up hI3 (by first | omega | (intro e; subst e; revert o0; decide)) | exact fr_fil hI3 (by omega) | exact fr_cpy hI3 (by omega)).trans F
  obtain ⟨I4, hI4, h⟩ := lt_x h
  replace F := (show I4 b = _ from by first | exact fr_up hI4 (by first | omega | (intro e; subst e; revert o0; decide)) | exact fr_fil hI4 (by omega) | exact fr_cpy hI4 (by omega)).trans F
  cases h
  exact F
set_option maxRecDepth 20000 in
set_option maxHeartbeats 4000000 in
theorem fb_Cmp_fillUntold_34 {x0 : Nat} {b : Nat} {r : IM} (o0 : b < x0 ∨ x0 + 1 ≤ b)   {I : IM} (h : b_Cmp_fillUntold_34 x0   I = some r) : r b = I b := by
  unfold b_Cmp_fillUntold_34 at h
  have F : I b = I b := rfl
  cases h
  exact F
set_option maxRecDepth 20000 in
set_option maxHeartbeats 4000000 in
theorem fb_Cmp_fillUntold_21 {x0 : Nat} {b : Nat} {r : IM} (o0 : b < x0 ∨ x0 + 1 ≤ b)  {x1 : Int32} {I : IM} (h : b_Cmp_fillUntold_21 x0  x1 I = some r) : r b = I b := by
  unfold b_Cmp_fillUntold_21 at h
  have F : I b = I b := rfl
  refine em_f (c := (x1 &&& 4 : Int32) = 0) (fun q6 => ?_) (fun q6 => ?_)
  · replace h := ite_f h q6
    exact (fb_Cmp_fillUntold_34 o0  h).trans F
  · replace h := ite_t h q6
    obtain ⟨c7, h⟩ := chk_e h
    obtain ⟨c8, h⟩ := chk_e h
    obtain ⟨I9, hI9, h⟩ := lt_x h
    replace F := (show I9 b = _ from by first | exact fr_up hI9 (by first | omega | (intro e; subst e; revert o0; decide)) | exact fr_fil hI9 (by omega) | exact fr_cpy hI9 (by omega)).trans F
    exact (fb_Cmp_fillUntold_34 o0  h).trans F
set_option maxRecDepth 20000 in
set_option maxHeartbeats 4000000 in
theorem fr_Cmp_fillUntold {x0 : Nat} {x1 : Int32} {I : IM} {b : Nat} {r : IM}  (h : f_Cmp_fillUntold x0 x1 I = some r) (o0 : b < x0 ∨ x0 + 1 ≤ b) : r b = I b := by
  unfold f_Cmp_fillUntold at h
  have F : I b = I b := rfl
  refine em_t (c := (25 : Int32) ≤ (Int32.ofNat (lenA x0) : Int32)) (fun q1 => ?_) (fun q1 => ?_)
  · replace h := ite_t h q1
    refine em_f (c := (x1 &&& 2 : Int32) = 0) (fun q2 => ?_) (fun q2 => ?_)
    · replace h := ite_f h q2
      exact (fb_Cmp_fillUntold_21 o0  h).trans F
    · replace h := ite_t h q2
      obtain ⟨c3, h⟩ := chk_e h
      obtain ⟨c4, h⟩ := chk_e h
      obtain ⟨I5, hI5, h⟩ := lt_x h
      replace F := (show I5 b = _ from by first | exact fr_up hI5 (by first | omega | (intro e; subst e; revert o0; decide)) | exact fr_fil hI5 (by omega) | exact fr_cpy hI5 (by omega)).trans F
      exact (fb_Cmp_fillUntold_21 o0  h).trans F
  · replace h := ite_f h q1
    cases h
    exact F
set_option maxRecDepth 20000 in
set_option maxHeartbeats 4000000 in
theorem fl_Cmp_answerUnlike_61 {n : Nat} {b : Nat} {r : Int32 × IM} (o0 : b < 42 ∨ 42 + 3 ≤ b) (o1 : b < 45 ∨ 45 + 3 ≤ b)  : ∀ (f : Nat) (x3 : Int32) (I : IM), l_Cmp_answerUnlike_61 n  f x3 I = some r → r.2 b = I b
  | 0, _, _, h => by cases h
  | f + 1, x3, I, h => by
    have ih := fl_Cmp_answerUnlike_61 (b := b) (r := r) (n := n)   o0 o1 f
    rw [l_Cmp_answerUnlike_61] at h
    have F : I b = I b := rfl
    refine em_t (c := (4 : Int32) < x3) (fun q7 => ?_) (fun q7 => ?_)
    · replace h := ite_t h q7
      cases h
      exact F
    · replace h := ite_f h q7
      obtain ⟨c8, h⟩ := chk_e h
      refine em_t (c := (I 43 x3.toNatClampNeg : Int32) = (I 46 x3.toNatClampNeg : Int32)) (fun q9 => ?_) (fun q9 => ?_)
      · replace h := ite_t h q9
        exact (ih _ _ h).trans F
      · replace h := ite_f h q9
        cases h
        exact F
set_option maxRecDepth 20000 in
set_option maxHeartbeats 4000000 in
theorem fr_Cmp_answerUnlike {n : Nat} {x1 : Int32} {x2 : Int32} {I : IM} {b : Nat} {r : Int32 × IM}  (h : f_Cmp_answerUnlike n x1 x2 I = some r) (o0 : b < 42 ∨ 42 + 3 ≤ b) (o1 : b < 45 ∨ 45 + 3 ≤ b) : r.2 b = I b := by
  unfold f_Cmp_answerUnlike at h
  have F : I b = I b := rfl
  refine em_t (c := (I 43 (1 : Int32).toNatClampNeg : Int32) = (I 46 (1 : Int32).toNatClampNeg : Int32)) (fun q1 => ?_) (fun q1 => ?_)
  · replace h := ite_t h q1
    refine em_t (c := (I 43 (1 : Int32).toNatClampNeg : Int32) = 0) (fun q2 => ?_) (fun q2 => ?_)
    · replace h := ite_t h q2
      obtain ⟨v3, e4, h⟩ := bnd_e h
      replace F := (fr_Cmp_fillUntold e4 (by first | omega | exact outA o0 (by decide))).trans F
      obtain ⟨v5, e6, h⟩ := bnd_e h
      replace F := (fr_Cmp_fillUntold e6 (by first | omega | exact outA o0 (by decide))).trans F
      exact (fl_Cmp_answerUnlike_61 o0 o1  _ _ _ h).trans F
    · replace h := ite_f h q2
      cases h
      exact F
  · replace h := ite_f h q1
    cases h
    exact F
set_option maxRecDepth 20000 in
set_option maxHeartbeats 4000000 in
theorem fb_Cmp_goToNextCase_49 {n : Nat} {b : Nat} {r : IM} (o0 : b < 41 ∨ 41 + 1 ≤ b) {H3 : Int32 → IM → Option (IM)} (hH3 : ∀ (x1 : Int32) (I : IM), H3 x1 I = some r → r b = I b) {x1 : Int32} {I : IM} (h : b_Cmp_goToNextCase_49 n H3 x1 I = some r) : r b = I b := by
  unfold b_Cmp_goToNextCase_49 at h
  have F : I b = I b := rfl
  exact (hH3 _ _ h).trans F
set_option maxRecDepth 20000 in
set_option maxHeartbeats 4000000 in
theorem fl_Cmp_goToNextCase_3 {n : Nat} {b : Nat} {r : IM} (o0 : b < 41 ∨ 41 + 1 ≤ b)  : ∀ (f : Nat) (x1 : Int32) (I : IM), l_Cmp_goToNextCase_3 n  f x1 I = some r → r b = I b
  | 0, _, _, h => by cases h
  | f + 1, x1, I, h => by
    have ih := fl_Cmp_goToNextCase_3 (b := b) (r := r) (n := n)   o0 f
    rw [l_Cmp_goToNextCase_3] at h
    have F : I b = I b := rfl
    refine em_t (c := x1 < 0) (fun q1 => ?_) (fun q1 => ?_)
    · replace h := ite_t h q1
      cases h
      exact F
    · replace h := ite_f h q1
      refine em_t (c := (((I 40 4 : Int32) >>> ((x1 : Int32) &&& 31)) &&& 1 : Int32) = 0) (fun q2 => ?_) (fun q2 => ?_)
      · replace h := ite_t h q2
        exact (fb_Cmp_goToNextCase_49 o0 ih h).trans F
      · replace h := ite_f h q2
        obtain ⟨c3, h⟩ := chk_e h
        refine em_t (c := (I 40 5 : Int32) ≤ (I 41 x1.toNatClampNeg : Int32)) (fun q4 => ?_) (fun q4 => ?_)
        · replace h := ite_t h q4
          obtain ⟨I5, hI5, h⟩ := lt_x h
          replace F := (show I5 b = _ from by first | exact fr_up hI5 (by first | omega | (intro e; subst e; revert o0; decide)) | exact fr_fil hI5 (by omega) | exact fr_cpy hI5 (by omega)).trans F
          exact (fb_Cmp_goToNextCase_49 o0 ih h).trans F
        · replace h := ite_f h q4
          obtain ⟨I6, hI6, h⟩ := lt_x h
          replace F := (show I6 b = _ from by first | exact fr_up hI6 (by first | omega | (intro e; subst e; revert o0; decide)) | exact fr_fil hI6 (by omega) | exact fr_cpy hI6 (by omega)).trans F
          cases h
          exact F
set_option maxRecDepth 20000 in
set_option maxHeartbeats 4000000 in
theorem fr_Cmp_goToNextCase {n : Nat} {I : IM} {b : Nat} {r : IM}  (h : f_Cmp_goToNextCase n I = some r) (o0 : b < 41 ∨ 41 + 1 ≤ b) : r b = I b := by
  unfold f_Cmp_goToNextCase at h
  have F : I b = I b := rfl
  exact (fl_Cmp_goToNextCase_3 o0  _ _ _ h).trans F
set_option maxRecDepth 20000 in
set_option maxHeartbeats 4000000 in
theorem fl_Cmp_firstUnlikeCase_8 {n : Nat} {x1 : Nat} {x2 : Nat} {x4 : Nat} {b : Nat} {r : Int32 × IM} (o0 : b < 40 ∨ 40 + 1 ≤ b) (o1 : b < 42 ∨ 42 + 3 ≤ b) (o2 : b < 45 ∨ 45 + 3 ≤ b) (o3 : b < x4 ∨ x4 + 19 ≤ b) (o4 : b < 41 ∨ 41 + 1 ≤ b)  : ∀ (f : Nat) (x3 : Int32) (x5 : Int32) (I : IM), l_Cmp_firstUnlikeCase_8 n x1 x2 x4  f x3 x5 I = some r → r.2 b = I b
  | 0, _, _, _, h => by cases h
  | f + 1, x3, x5, I, h => by
    have ih := fl_Cmp_firstUnlikeCase_8 (b := b) (r := r) (n := n) (x1 := x1) (x2 := x2) (x4 := x4)  o0 o1 o2 o3 o4 f
    rw [l_Cmp_firstUnlikeCase_8] at h
    have F : I b = I b := rfl
    refine em_t (c := (I 40 6 : Int32) ≤ x5) (fun q2 => ?_) (fun q2 => ?_)
    · replace h := ite_t h q2
      cases h
      exact F
    · replace h := ite_f h q2
      obtain ⟨I3, hI3, h⟩ := lt_x h
      replace F := (show I3 b = _ from by first | exact fr_up hI3 (by first | omega | (intro e; subst e; revert o0; decide)) | exact fr_fil hI3 (by omega) | exact fr_cpy hI3 (by omega)).trans F
      obtain ⟨I4, hI4, h⟩ := lt_x h
      replace F := (show I4 b = _ from by first | exact fr_up hI4 (by first | omega | (intro e; subst e; revert o0; decide)) | exact fr_fil hI4 (by omega) | exact fr_cpy hI4 (by omega)).trans F
      obtain ⟨v5, e6, h⟩ := bnd_e h
      replace F := (fr_Wrk_workOut e6 (by first | omega | exact outA o0 (by decide)) (by first | omega | exact outA o0 (by decide))).trans F
      obtain ⟨v7, e8, h⟩ := bnd_e h
      replace F := (fr_Wrk_workOut e8 (by first | omega | exact outA o0 (by decide)) (by first | omega | exact outA o0 (by decide))).trans F
      obtain ⟨c9, h⟩ := chk_e h
      obtain ⟨v10, e11, h⟩ := bnd_e h
      replace F := (fr_Cmp_answerUnlike e11 (by first | omega | exact outA o0 (by decide)) (by first | omega | exact outA o0 (by decide))).trans F
      refine em_t (c := (v10.1 : Int32) = 0) (fun q12 => ?_) (fun q12 => ?_)
      · replace h := ite_t h q12
        obtain ⟨v13, e14, h⟩ := bnd_e h
        replace F := (fr_Cmp_goToNextCase e14 (by first | omega | exact outA o0 (by decide))).trans F
        exact (ih _ _ _ h).trans F
      · replace h := ite_f h q12
        obtain ⟨I15, hI15, h⟩ := lt_x h
        replace F := (show I15 b = _ from by first | exact fr_up hI15 (by first | omega | (intro e; subst e; revert o0; decide)) | exact fr_fil hI15 (by omega) | exact fr_cpy hI15 (by omega)).trans F
        cases h
        exact F
set_option maxRecDepth 20000 in
set_option maxHeartbeats 4000000 in
theorem fr_Cmp_firstUnlikeCase {n : Nat} {x1 : Nat} {x2 : Nat} {x3 : Int32} {x4 : Nat} {I : IM} {b : Nat} {r : Int32 × IM}  (h : f_Cmp_firstUnlikeCase n x1 x2 x3 x4 I = some r) (o0 : b < 40 ∨ 40 + 1 ≤ b) (o1 : b < 42 ∨ 42 + 3 ≤ b) (o2 : b < 45 ∨ 45 + 3 ≤ b) (o3 : b < x4 ∨ x4 + 19 ≤ b) (o4 : b < 41 ∨ 41 + 1 ≤ b) : r.2 b = I b := by
  unfold f_Cmp_firstUnlikeCase at h
  have F : I b = I b := rfl
  obtain ⟨I1, hI1, h⟩ := lt_x h
  replace F := (show I1 b = _ from by first | exact fr_up hI1 (by first | omega | (intro e; subst e; revert o0; decide)) | exact fr_fil hI1 (by omega) | exact fr_cpy hI1 (by omega)).trans F
  exact (fl_Cmp_firstUnlikeCase_8 o0 o1 o2 o3 o4  _ _ _ _ h).trans F
set_option maxRecDepth 20000 in
set_option maxHeartbeats 4000000 in
theorem fb_Eng_differ_21 {n : Nat} {rl : Nat} {hd : Nat} {b : Nat} {r : Int32 × IM} (o0 : b < 40 ∨ 40 + 1 ≤ b) (o1 : b < 41 ∨ 41 + 1 ≤ b) (o2 : b < 42 ∨ 42 + 3 ≤ b) (o3 : b < 45 ∨ 45 + 3 ≤ b) (o4 : b < hd ∨ hd + 19 ≤ b)   {I : IM} (h : b_Eng_differ_21 n rl hd   I = some r) : r.2 b = I b := by
  unfold b_Eng_differ_21 at h
  have F : I b = I b := rfl
  cases h
set_option maxRecDepth 20000 in
set_option maxHeartbeats 4000000 in
theorem fb_Eng_differ_53 {n : Nat} {rl : Nat} {hd : Nat} {b : Nat} {r : Int32 × IM} (o0 : b < 40 ∨ 40 + 1 ≤ b) (o1 : b < 41 ∨ 41 + 1 ≤ b) (o2 : b < 42 ∨ 42 + 3 ≤ b) (o3 : b < 45 ∨ 45 + 3 ≤ b) (o4 : b < hd ∨ hd + 19 ≤ b)   {I : IM} (h : b_Eng_differ_53 n rl hd   I = some r) : r.2 b = I b := by
  unfold b_Eng_differ_53 at h
  have F : I b = I b := rfl
  cases h
set_option maxRecDepth 20000 in
set_option maxHeartbeats 4000000 in
theorem fr_Eng_differ {n : Nat} {rl : Nat} {hd : Nat} {x1 : Int32} {x2 : Int32} {I : IM} {b : Nat} {r : Int32 × IM}  (h : f_Eng_differ n rl hd x1 x2 I = some r) (o0 : b < 40 ∨ 40 + 1 ≤ b) (o1 : b < 41 ∨ 41 + 1 ≤ b) (o2 : b < 42 ∨ 42 + 3 ≤ b) (o3 : b < 45 ∨ 45 + 3 ≤ b) (o4 : b < hd ∨ hd + 19 ≤ b) : r.2 b = I b := by
  unfold f_Eng_differ at h
  have F : I b = I b := rfl
  refine em_t (c := x1 < 0) (fun q1 => ?_) (fun q1 => ?_)
  · replace h := ite_t h q1
    exact (fb_Eng_differ_21 o0 o1 o2 o3 o4  h).trans F
  · replace h := ite_f h q1
    refine em_t (c := (22 : Int32) ≤ x1) (fun q2 => ?_) (fun q2 => ?_)
    · replace h := ite_t h q2
      exact (fb_Eng_differ_21 o0 o1 o2 o3 o4  h).trans F
    · replace h := ite_f h q2
      refine em_t (c := x2 < (1 : Int32)) (fun q3 => ?_) (fun q3 => ?_)
      · replace h := ite_t h q3
        exact (fb_Eng_differ_21 o0 o1 o2 o3 o4  h).trans F
      · replace h := ite_f h q3
        refine em_t (c := x2 ≤ (7 : Int32)) (fun q4 => ?_) (fun q4 => ?_)
        · replace h := ite_t h q4
          obtain ⟨v5, e6, h⟩ := bnd_e h
          refine em_t (c := v5 = 0) (fun q7 => ?_) (fun q7 => ?_)
          · replace h := ite_t h q7
            exact (fb_Eng_differ_53 o0 o1 o2 o3 o4  h).trans F
          · replace h := ite_f h q7
            obtain ⟨v8, e9, h⟩ := bnd_e h
            refine em_f (c := v8 = 0) (fun q10 => ?_) (fun q10 => ?_)
            · replace h := ite_f h q10
              obtain ⟨v11, e12, h⟩ := bnd_e h
              obtain ⟨v13, e14, h⟩ := bnd_e h
              refine em_t (c := v13 ≤ (4096 : Int32)) (fun q15 => ?_) (fun q15 => ?_)
              · replace h := ite_t h q15
                obtain ⟨v16, e17, h⟩ := bnd_e h
                replace F := (fr_Cmp_startCases e17 (by first | omega | exact outA o0 (by decide)) (by first | omega | exact outA o0 (by decide))).trans F
                obtain ⟨v18, e19, h⟩ := bnd_e h
                replace F := (fr_Cmp_firstUnlikeCase e19 (by first | omega | exact outA o0 (by decide)) (by first | omega | exact outA o0 (by decide)) (by first | omega | exact outA o0 (by decide)) (by first | omega | exact outA o0 (by decide)) (by first | omega | exact outA o0 (by decide))).trans F
                cases h
                exact F
              · replace h := ite_f h q15
                cases h
            · replace h := ite_t h q10
              exact (fb_Eng_differ_53 o0 o1 o2 o3 o4  h).trans F
        · replace h := ite_f h q4
          exact (fb_Eng_differ_21 o0 o1 o2 o3 o4  h).trans F
set_option maxRecDepth 20000 in
set_option maxHeartbeats 4000000 in
theorem fr_Rng_become {x0 : Nat} {x1 : Nat} {I : IM} {b : Nat} {r : IM}  (h : f_Rng_become x0 x1 I = some r) (o0 : b < x0 ∨ x0 + 2 ≤ b) : r b = I b := by
  unfold f_Rng_become at h
  have F : I b = I b := rfl
  obtain ⟨I1, hI1, h⟩ := lt_x h
  replace F := (show I1 b = _ from by first | exact fr_up hI1 (by first | omega | (intro e; subst e; revert o0; decide)) | exact fr_fil hI1 (by omega) | exact fr_cpy hI1 (by omega)).trans F
  obtain ⟨I2, hI2, h⟩ := lt_x h
  replace F := (show I2 b = _ from by first | exact fr_up hI2 (by first | omega | (intro e; subst e; revert o0; decide)) | exact fr_fil hI2 (by omega) | exact fr_cpy hI2 (by omega)).trans F
  obtain ⟨v3, e4, h⟩ := bnd_e h
  replace F := (fr_Eng_copyRow e4 (by first | omega | exact outA o0 (by decide))).trans F
  cases h
  exact F
set_option maxRecDepth 20000 in
set_option maxHeartbeats 4000000 in
theorem fr_Mch_become {x0 : Nat} {x1 : Nat} {I : IM} {b : Nat} {r : IM}  (h : f_Mch_become x0 x1 I = some r) (o0 : b < x0 ∨ x0 + 19 ≤ b) : r b = I b := by
  unfold f_Mch_become at h
  have F : I b = I b := rfl
  obtain ⟨I1, hI1, h⟩ := lt_x h
  replace F := (show I1 b = _ from by first | exact fr_up hI1 (by first | omega | (intro e; subst e; revert o0; decide)) | exact fr_fil hI1 (by omega) | exact fr_cpy hI1 (by omega)).trans F
  obtain ⟨I2, hI2, h⟩ := lt_x h
  replace F := (show I2 b = _ from by first | exact fr_up hI2 (by first | omega | (intro e; subst e; revert o0; decide)) | exact fr_fil hI2 (by omega) | exact fr_cpy hI2 (by omega)).trans F
  obtain ⟨I3, hI3, h⟩ := lt_x h
  replace F := (show I3 b = _ from by first | exact fr_up hI3 (by first | omega | (intro e; subst e; revert o0; decide)) | exact fr_fil hI3 (by omega) | exact fr_cpy hI3 (by omega)).trans F
  obtain ⟨v4, e5, h⟩ := bnd_e h
  replace F := (fr_Eng_copyRow e5 (by first | omega | exact outA o0 (by decide))).trans F
  obtain ⟨v6, e7, h⟩ := bnd_e h
  replace F := (fr_Eng_copyRow e7 (by first | omega | exact outA o0 (by decide))).trans F
  obtain ⟨v8, e9, h⟩ := bnd_e h
  replace F := (fr_Eng_copyRow e9 (by first | omega | exact outA o0 (by decide))).trans F
  obtain ⟨v10, e11, h⟩ := bnd_e h
  replace F := (fr_Eng_copyRow e11 (by first | omega | exact outA o0 (by decide))).trans F
  obtain ⟨v12, e13, h⟩ := bnd_e h
  replace F := (fr_Eng_copyRow e13 (by first | omega | exact outA o0 (by decide))).trans F
  obtain ⟨v14, e15, h⟩ := bnd_e h
  replace F := (fr_Eng_copyRow e15 (by first | omega | exact outA o0 (by decide))).trans F
  obtain ⟨v16, e17, h⟩ := bnd_e h
  replace F := (fr_Eng_copyRow e17 (by first | omega | exact outA o0 (by decide))).trans F
  obtain ⟨v18, e19, h⟩ := bnd_e h
  replace F := (fr_Eng_copyRow e19 (by first | omega | exact outA o0 (by decide))).trans F
  obtain ⟨v20, e21, h⟩ := bnd_e h
  replace F := (fr_Eng_copyRow e21 (by first | omega | exact outA o0 (by decide))).trans F
  obtain ⟨v22, e23, h⟩ := bnd_e h
  replace F := (fr_Eng_copyRow e23 (by first | omega | exact outA o0 (by decide))).trans F
  obtain ⟨v24, e25, h⟩ := bnd_e h
  replace F := (fr_Eng_copyRow e25 (by first | omega | exact outA o0 (by decide))).trans F
  obtain ⟨v26, e27, h⟩ := bnd_e h
  replace F := (fr_Eng_copyRow e27 (by first | omega | exact outA o0 (by decide))).trans F
  obtain ⟨v28, e29, h⟩ := bnd_e h
  replace F := (fr_Eng_copyRow e29 (by first | omega | exact outA o0 (by decide))).trans F
  obtain ⟨v30, e31, h⟩ := bnd_e h
  replace F := (fr_Eng_copyRow e31 (by first | omega | exact outA o0 (by decide))).trans F
  obtain ⟨v32, e33, h⟩ := bnd_e h
  replace F := (fr_Rng_become e33 (by first | omega | exact outA o0 (by decide))).trans F
  obtain ⟨v34, e35, h⟩ := bnd_e h
  replace F := (fr_Rng_become e35 (by first | omega | exact outA o0 (by decide))).trans F
  cases h
  exact F
set_option maxRecDepth 20000 in
set_option maxHeartbeats 4000000 in
theorem fr_Eng_twin {hd : Nat} {ot : Nat} {I : IM} {b : Nat} {r : IM}  (h : f_Eng_twin hd ot I = some r) (o0 : b < ot ∨ ot + 19 ≤ b) : r b = I b := by
  unfold f_Eng_twin at h
  have F : I b = I b := rfl
  obtain ⟨v1, e2, h⟩ := bnd_e h
  replace F := (fr_Mch_become e2 (by first | omega | exact outA o0 (by decide))).trans F
  cases h
  exact F
set_option maxRecDepth 20000 in
set_option maxHeartbeats 4000000 in
theorem fb_Rdr_skipBlanks_56 {n : Nat} {b : Nat} {r : IM} (o0 : b < 1 ∨ 1 + 6 ≤ b) {H2 : Int32 → IM → Option (IM)} (hH2 : ∀ (x1 : Int32) (I : IM), H2 x1 I = some r → r b = I b) {x1 : Int32} {I : IM} (h : b_Rdr_skipBlanks_56 n H2 x1 I = some r) : r b = I b := by
  unfold b_Rdr_skipBlanks_56 at h
  have F : I b = I b := rfl
  obtain ⟨I7, hI7, h⟩ := lt_x h
  replace F := (show I7 b = _ from by first | exact fr_up hI7 (by first | omega | (intro e; subst e; revert o0; decide)) | exact fr_fil hI7 (by omega) | exact fr_cpy hI7 (by omega)).trans F
  exact (hH2 _ _ h).trans F
set_option maxRecDepth 20000 in
set_option maxHeartbeats 4000000 in
theorem fl_Rdr_skipBlanks_2 {n : Nat} {b : Nat} {r : IM} (o0 : b < 1 ∨ 1 + 6 ≤ b)  : ∀ (f : Nat) (x1 : Int32) (I : IM), l_Rdr_skipBlanks_2 n  f x1 I = some r → r b = I b
  | 0, _, _, h => by cases h
  | f + 1, x1, I, h => by
    have ih := fl_Rdr_skipBlanks_2 (b := b) (r := r) (n := n)   o0 f
    rw [l_Rdr_skipBlanks_2] at h
    have F : I b = I b := rfl
    refine em_t (c := (I 1 0 : Int32) ≤ (I 1 4 : Int32)) (fun q1 => ?_) (fun q1 => ?_)
    · replace h := ite_t h q1
      cases h
      exact F
    · replace h := ite_f h q1
      obtain ⟨c2, h⟩ := chk_e h
      refine em_f (c := (I 2 (I 1 4 : Int32).toNatClampNeg : Int32) = (10 : Int32)) (fun q3 => ?_) (fun q3 => ?_)
      · replace h := ite_f h q3
        refine em_f (c := (I 2 (I 1 4 : Int32).toNatClampNeg : Int32) = (35 : Int32)) (fun q4 => ?_) (fun q4 => ?_)
        · replace h := ite_f h q4
          refine em_t (c := (I 2 (I 1 4 : Int32).toNatClampNeg : Int32) = (32 : Int32)) (fun q5 => ?_) (fun q5 => ?_)
          · replace h := ite_t h q5
            exact (fb_Rdr_skipBlanks_56 o0 ih h).trans F
          · replace h := ite_f h q5
            refine em_f (c := x1 = 0) (fun q6 => ?_) (fun q6 => ?_)
            · replace h := ite_f h q6
              exact (fb_Rdr_skipBlanks_56 o0 ih h).trans F
            · replace h := ite_t h q6
              cases h
              exact F
        · replace h := ite_t h q4
          exact (fb_Rdr_skipBlanks_56 o0 ih h).trans F
      · replace h := ite_t h q3
        exact (fb_Rdr_skipBlanks_56 o0 ih h).trans F
set_option maxRecDepth 20000 in
set_option maxHeartbeats 4000000 in
theorem fr_Rdr_skipBlanks {n : Nat} {I : IM} {b : Nat} {r : IM}  (h : f_Rdr_skipBlanks n I = some r) (o0 : b < 1 ∨ 1 + 6 ≤ b) : r b = I b := by
  unfold f_Rdr_skipBlanks at h
  have F : I b = I b := rfl
  exact (fl_Rdr_skipBlanks_2 o0  _ _ _ h).trans F
set_option maxRecDepth 20000 in
set_option maxHeartbeats 4000000 in
theorem fb_Rdr_readWord_64 {n : Nat} {J : JM} {b : Nat} {r : Int32 × IM} (o0 : b < 1 ∨ 1 + 6 ≤ b) {H7 : Int32 → Int64 → IM → Option (Int32 × IM)} (hH7 : ∀ (x1 : Int32) (x2 : Int64) (I : IM), H7 x1 x2 I = some r → r.2 b = I b) {x1 : Int32} {x2 : Int64} {I : IM} (h : b_Rdr_readWord_64 n J H7 x1 x2 I = some r) : r.2 b = I b := by
  unfold b_Rdr_readWord_64 at h
  have F : I b = I b := rfl
  obtain ⟨I9, hI9, h⟩ := lt_x h
  replace F := (show I9 b = _ from by first | exact fr_up hI9 (by first | omega | (intro e; subst e; revert o0; decide)) | exact fr_fil hI9 (by omega) | exact fr_cpy hI9 (by omega)).trans F
  exact (hH7 _ _ _ h).trans F
set_option maxRecDepth 20000 in
set_option maxHeartbeats 4000000 in
theorem fl_Rdr_readWord_80 {n : Nat} {J : JM} {b : Nat} {r : Int32 × IM} (o0 : b < 1 ∨ 1 + 6 ≤ b)  : ∀ (f : Nat) (x2 : Int64) (x4 : Int32) (I : IM), l_Rdr_readWord_80 n J  f x2 x4 I = some r → r.2 b = I b
  | 0, _, _, _, h => by cases h
  | f + 1, x2, x4, I, h => by
    have ih := fl_Rdr_readWord_80 (b := b) (r := r) (n := n)  (J := J) o0 f
    rw [l_Rdr_readWord_80] at h
    have F : I b = I b := rfl
    refine em_t (c := (50 : Int32) ≤ x4) (fun q10 => ?_) (fun q10 => ?_)
    · replace h := ite_t h q10
      cases h
      exact F
    · replace h := ite_f h q10
      obtain ⟨c11, h⟩ := chk_e h
      refine em_f (c := (lg_cmp (J 6 x4.toNatClampNeg) (x2) : Int32) = 0) (fun q12 => ?_) (fun q12 => ?_)
      · replace h := ite_f h q12
        exact (ih _ _ _ h).trans F
      · replace h := ite_t h q12
        cases h
        exact F
set_option maxRecDepth 20000 in
set_option maxHeartbeats 4000000 in
theorem fb_Rdr_readWord_77 {n : Nat} {J : JM} {b : Nat} {r : Int32 × IM} (o0 : b < 1 ∨ 1 + 6 ≤ b)  {x2 : Int64} {I : IM} (h : b_Rdr_readWord_77 n J  x2 I = some r) : r.2 b = I b := by
  unfold b_Rdr_readWord_77 at h
  have F : I b = I b := rfl
  exact (fl_Rdr_readWord_80 o0  _ _ _ _ h).trans F
set_option maxRecDepth 20000 in
set_option maxHeartbeats 4000000 in
theorem fl_Rdr_readWord_7 {n : Nat} {J : JM} {b : Nat} {r : Int32 × IM} (o0 : b < 1 ∨ 1 + 6 ≤ b)  : ∀ (f : Nat) (x1 : Int32) (x2 : Int64) (I : IM), l_Rdr_readWord_7 n J  f x1 x2 I = some r → r.2 b = I b
  | 0, _, _, _, h => by cases h
  | f + 1, x1, x2, I, h => by
    have ih := fl_Rdr_readWord_7 (b := b) (r := r) (n := n)  (J := J) o0 f
    rw [l_Rdr_readWord_7] at h
    have F : I b = I b := rfl
    refine em_t (c := (I 1 0 : Int32) ≤ (I 1 4 : Int32)) (fun q1 => ?_) (fun q1 => ?_)
    · replace h := ite_t h q1
      exact (fb_Rdr_readWord_77 o0  h).trans F
    · replace h := ite_f h q1
      obtain ⟨c2, h⟩ := chk_e h
      obtain ⟨v3, e4, h⟩ := bnd_e h
      refine em_t (c := v3 = 0) (fun q5 => ?_) (fun q5 => ?_)
      · replace h := ite_t h q5
        exact (fb_Rdr_readWord_77 o0  h).trans F
      · replace h := ite_f h q5
        refine em_t (c := (8 : Int32) < ((I 1 4) - x1 : Int32)) (fun q6 => ?_) (fun q6 => ?_)
        · replace h := ite_t h q6
          exact (fb_Rdr_readWord_64 o0 ih h).trans F
        · replace h := ite_f h q6
          obtain ⟨v7, e8, h⟩ := bnd_e h
          exact (fb_Rdr_readWord_64 o0 ih h).trans F
set_option maxRecDepth 20000 in
set_option maxHeartbeats 4000000 in
theorem fr_Rdr_readWord {n : Nat} {J : JM} {I : IM} {b : Nat} {r : Int32 × IM}  (h : f_Rdr_readWord n J I = some r) (o0 : b < 1 ∨ 1 + 6 ≤ b) : r.2 b = I b := by
  unfold f_Rdr_readWord at h
  have F : I b = I b := rfl
  exact (fl_Rdr_readWord_7 o0  _ _ _ _ h).trans F
set_option maxRecDepth 20000 in
set_option maxHeartbeats 4000000 in
theorem fb_Rdr_readNumber_71 {n : Nat} {b : Nat} {r : Int32 × IM} (o0 : b < 1 ∨ 1 + 6 ≤ b) {H10 : Int32 → IM → Option (Int32 × IM)} (hH10 : ∀ (x1 : Int32) (I : IM), H10 x1 I = some r → r.2 b = I b) {x1 : Int32} {I : IM} (h : b_Rdr_readNumber_71 n H10 x1 I = some r) : r.2 b = I b := by
  unfold b_Rdr_readNumber_71 at h
  have F : I b = I b := rfl
  obtain ⟨I9, hI9, h⟩ := lt_x h
  replace F := (show I9 b = _ from by first | exact fr_up hI9 (by first | omega | (intro e; subst e; revert o0; decide)) | exact fr_fil hI9 (by omega) | exact fr_cpy hI9 (by omega)).trans F
  exact (hH10 _ _ h).trans F
set_option maxRecDepth 20000 in
set_option maxHeartbeats 4000000 in
theorem fb_Rdr_readNumber_84 {n : Nat} {b : Nat} {r : Int32 × IM} (o0 : b < 1 ∨ 1 + 6 ≤ b)  {x1 : Int32} {I : IM} (h : b_Rdr_readNumber_84 n  x1 I = some r) : r.2 b = I b := by
  unfold b_Rdr_readNumber_84 at h
  have F : I b = I b := rfl
  cases h
  exact F
set_option maxRecDepth 20000 in
set_option maxHeartbeats 4000000 in
theorem fl_Rdr_readNumber_10 {n : Nat} {b : Nat} {r : Int32 × IM} (o0 : b < 1 ∨ 1 + 6 ≤ b)  : ∀ (f : Nat) (x1 : Int32) (I : IM), l_Rdr_readNumber_10 n  f x1 I = some r → r.2 b = I b
  | 0, _, _, h => by cases h
  | f + 1, x1, I, h => by
    have ih := fl_Rdr_readNumber_10 (b := b) (r := r) (n := n)   o0 f
    rw [l_Rdr_readNumber_10] at h
    have F : I b = I b := rfl
    refine em_t (c := (I 1 0 : Int32) ≤ (I 1 4 : Int32)) (fun q2 => ?_) (fun q2 => ?_)
    · replace h := ite_t h q2
      exact (fb_Rdr_readNumber_84 o0  h).trans F
    · replace h := ite_f h q2
      obtain ⟨c3, h⟩ := chk_e h
      obtain ⟨v4, e5, h⟩ := bnd_e h
      refine em_t (c := v4 = 0) (fun q6 => ?_) (fun q6 => ?_)
      · replace h := ite_t h q6
        exact (fb_Rdr_readNumber_84 o0  h).trans F
      · replace h := ite_f h q6
        refine em_t (c := (7 : Int32) ≤ ((I 1 4) - x1 : Int32)) (fun q7 => ?_) (fun q7 => ?_)
        · replace h := ite_t h q7
          exact (fb_Rdr_readNumber_71 o0 ih h).trans F
        · replace h := ite_f h q7
          obtain ⟨I8, hI8, h⟩ := lt_x h
          replace F := (show I8 b = _ from by first | exact fr_up hI8 (by first | omega | (intro e; subst e; revert o0; decide)) | exact fr_fil hI8 (by omega) | exact fr_cpy hI8 (by omega)).trans F
          exact (fb_Rdr_readNumber_71 o0 ih h).trans F
set_option maxRecDepth 20000 in
set_option maxHeartbeats 4000000 in
theorem fr_Rdr_readNumber {n : Nat} {I : IM} {b : Nat} {r : Int32 × IM}  (h : f_Rdr_readNumber n I = some r) (o0 : b < 1 ∨ 1 + 6 ≤ b) : r.2 b = I b := by
  unfold f_Rdr_readNumber at h
  have F : I b = I b := rfl
  obtain ⟨I1, hI1, h⟩ := lt_x h
  replace F := (show I1 b = _ from by first | exact fr_up hI1 (by first | omega | (intro e; subst e; revert o0; decide)) | exact fr_fil hI1 (by omega) | exact fr_cpy hI1 (by omega)).trans F
  exact (fl_Rdr_readNumber_10 o0  _ _ _ h).trans F
set_option maxRecDepth 20000 in
set_option maxHeartbeats 4000000 in
theorem fb_Rdr_readSign_79 {b : Nat} {r : Int32 × IM} (o0 : b < 1 ∨ 1 + 6 ≤ b)  {x1 : Int32} {I : IM} (h : b_Rdr_readSign_79   x1 I = some r) : r.2 b = I b := by
  unfold b_Rdr_readSign_79 at h
  have F : I b = I b := rfl
  obtain ⟨c10, h⟩ := chk_e h
  obtain ⟨c11, h⟩ := chk_e h
  cases h
  exact F
set_option maxRecDepth 20000 in
set_option maxHeartbeats 4000000 in
theorem fr_Rdr_readSign {x1 : Int32} {I : IM} {b : Nat} {r : Int32 × IM}  (h : f_Rdr_readSign x1 I = some r) (o0 : b < 1 ∨ 1 + 6 ≤ b) : r.2 b = I b := by
  unfold f_Rdr_readSign at h
  have F : I b = I b := rfl
  obtain ⟨I1, hI1, h⟩ := lt_x h
  replace F := (show I1 b = _ from by first | exact fr_up hI1 (by first | omega | (intro e; subst e; revert o0; decide)) | exact fr_fil hI1 (by omega) | exact fr_cpy hI1 (by omega)).trans F
  refine em_t (c := (if x1 = (61 : Int32) then 1 else (if x1 = (33 : Int32) then 1 else (if x1 = (60 : Int32) then 1 else 0)) : Int32) = 0) (fun q5 => ?_) (fun q5 => ?_)
  · replace h := ite_t h q5
    exact (fb_Rdr_readSign_79 o0  h).trans F
  · replace h := ite_f h q5
    refine em_t (c := (I1 1 0 : Int32) ≤ (I1 1 4 : Int32)) (fun q6 => ?_) (fun q6 => ?_)
    · replace h := ite_t h q6
      exact (fb_Rdr_readSign_79 o0  h).trans F
    · replace h := ite_f h q6
      obtain ⟨c7, h⟩ := chk_e h
      refine em_f (c := (I1 2 (I1 1 4 : Int32).toNatClampNeg : Int32) = (61 : Int32)) (fun q8 => ?_) (fun q8 => ?_)
      · replace h := ite_f h q8
        exact (fb_Rdr_readSign_79 o0  h).trans F
      · replace h := ite_t h q8
        obtain ⟨I9, hI9, h⟩ := lt_x h
        replace F := (show I9 b = _ from by first | exact fr_up hI9 (by first | omega | (intro e; subst e; revert o0; decide)) | exact fr_fil hI9 (by omega) | exact fr_cpy hI9 (by omega)).trans F
        cases h
        exact F
set_option maxRecDepth 20000 in
set_option maxHeartbeats 4000000 in
theorem fb_Rdr_readToken_18 {n : Nat} {J : JM} {b : Nat} {r : Int32 × IM} (o0 : b < 1 ∨ 1 + 6 ≤ b)   {I : IM} (h : b_Rdr_readToken_18 n J   I = some r) : r.2 b = I b := by
  unfold b_Rdr_readToken_18 at h
  have F : I b = I b := rfl
  cases h
  exact F
set_option maxRecDepth 20000 in
set_option maxHeartbeats 4000000 in
theorem fb_Rdr_readToken_62 {n : Nat} {J : JM} {b : Nat} {r : Int32 × IM} (o0 : b < 1 ∨ 1 + 6 ≤ b)  {y0 : Int32} {I : IM} (h : b_Rdr_readToken_62 n J  y0 I = some r) : r.2 b = I b := by
  unfold b_Rdr_readToken_62 at h
  have F : I b = I b := rfl
  cases h
  exact F
set_option maxRecDepth 20000 in
set_option maxHeartbeats 4000000 in
theorem fr_Rdr_readToken {n : Nat} {J : JM} {I : IM} {b : Nat} {r : Int32 × IM}  (h : f_Rdr_readToken n J I = some r) (o0 : b < 1 ∨ 1 + 6 ≤ b) : r.2 b = I b := by
  unfold f_Rdr_readToken at h
  have F : I b = I b := rfl
  refine em_t (c := (I 1 4 : Int32) < 0) (fun q1 => ?_) (fun q1 => ?_)
  · replace h := ite_t h q1
    exact (fb_Rdr_readToken_18 o0  h).trans F
  · replace h := ite_f h q1
    refine em_t (c := (I 1 4 : Int32) < (I 1 0 : Int32)) (fun q2 => ?_) (fun q2 => ?_)
    · replace h := ite_t h q2
      obtain ⟨c3, h⟩ := chk_e h
      obtain ⟨v4, e5, h⟩ := bnd_e h
      refine em_t (c := v4 = 0) (fun q6 => ?_) (fun q6 => ?_)
      · replace h := ite_t h q6
        obtain ⟨v7, e8, h⟩ := bnd_e h
        refine em_t (c := v7 = 0) (fun q9 => ?_) (fun q9 => ?_)
        · replace h := ite_t h q9
          obtain ⟨v10, e11, h⟩ := bnd_e h
          replace F := (fr_Rdr_readSign e11 (by first | omega | exact outA o0 (by decide))).trans F
          exact (fb_Rdr_readToken_62 o0  h).trans F
        · replace h := ite_f h q9
          obtain ⟨v12, e13, h⟩ := bnd_e h
          replace F := (fr_Rdr_readNumber e13 (by first | omega | exact outA o0 (by decide))).trans F
          exact (fb_Rdr_readToken_62 o0  h).trans F
      · replace h := ite_f h q6
        obtain ⟨v14, e15, h⟩ := bnd_e h
        replace F := (fr_Rdr_readWord e15 (by first | omega | exact outA o0 (by decide))).trans F
        cases h
        exact F
    · replace h := ite_f h q2
      exact (fb_Rdr_readToken_18 o0  h).trans F
set_option maxRecDepth 20000 in
set_option maxHeartbeats 4000000 in
theorem fb_Rdr_advance_25 {b : Nat} {r : IM} (o0 : b < 1 ∨ 1 + 6 ≤ b)   {I : IM} (h : b_Rdr_advance_25    I = some r) : r b = I b := by
  unfold b_Rdr_advance_25 at h
  have F : I b = I b := rfl
  cases h
  exact F
set_option maxRecDepth 20000 in
set_option maxHeartbeats 4000000 in
theorem fb_Rdr_advance_94 {b : Nat} {r : IM} (o0 : b < 1 ∨ 1 + 6 ≤ b)   {I : IM} (h : b_Rdr_advance_94    I = some r) : r b = I b := by
  unfold b_Rdr_advance_94 at h
  have F : I b = I b := rfl
  cases h
  exact F
set_option maxRecDepth 20000 in
set_option maxHeartbeats 4000000 in
theorem fb_Rdr_advance_26 {b : Nat} {r : IM} (o0 : b < 1 ∨ 1 + 6 ≤ b)   {I : IM} (h : b_Rdr_advance_26    I = some r) : r b = I b := by
  unfold b_Rdr_advance_26 at h
  have F : I b = I b := rfl
  obtain ⟨I4, hI4, h⟩ := lt_x h
  replace F := (show I4 b = _ from by first | exact fr_up hI4 (by first | omega | (intro e; subst e; revert o0; decide)) | exact fr_fil hI4 (by omega) | exact fr_cpy hI4 (by omega)).trans F
  refine em_t (c := (I4 1 5 : Int32) < 0) (fun q5 => ?_) (fun q5 => ?_)
  · replace h := ite_t h q5
    exact (fb_Rdr_advance_94 o0  h).trans F
  · replace h := ite_f h q5
    refine em_t (c := (901 : Int32) ≤ (I4 1 5 : Int32)) (fun q6 => ?_) (fun q6 => ?_)
    · replace h := ite_t h q6
      exact (fb_Rdr_advance_94 o0  h).trans F
    · replace h := ite_f h q6
      obtain ⟨c7, h⟩ := chk_e h
      obtain ⟨I8, hI8, h⟩ := lt_x h
      replace F := (show I8 b = _ from by first | exact fr_up hI8 (by first | omega | (intro e; subst e; revert o0; decide)) | exact fr_fil hI8 (by omega) | exact fr_cpy hI8 (by omega)).trans F
      obtain ⟨c9, h⟩ := chk_e h
      obtain ⟨I10, hI10, h⟩ := lt_x h
      replace F := (show I10 b = _ from by first | exact fr_up hI10 (by first | omega | (intro e; subst e; revert o0; decide)) | exact fr_fil hI10 (by omega) | exact fr_cpy hI10 (by omega)).trans F
      obtain ⟨c11, h⟩ := chk_e h
      obtain ⟨I12, hI12, h⟩ := lt_x h
      replace F := (show I12 b = _ from by first | exact fr_up hI12 (by first | omega | (intro e; subst e; revert o0; decide)) | exact fr_fil hI12 (by omega) | exact fr_cpy hI12 (by omega)).trans F
      exact (fb_Rdr_advance_94 o0  h).trans F
set_option maxRecDepth 20000 in
set_option maxHeartbeats 4000000 in
theorem fr_Rdr_advance {I : IM} {b : Nat} {r : IM}  (h : f_Rdr_advance  I = some r) (o0 : b < 1 ∨ 1 + 6 ≤ b) : r b = I b := by
  unfold f_Rdr_advance at h
  have F : I b = I b := rfl
  refine em_t (c := (I 1 5 : Int32) < 0) (fun q1 => ?_) (fun q1 => ?_)
  · replace h := ite_t h q1
    exact (fb_Rdr_advance_26 o0  h).trans F
  · replace h := ite_f h q1
    refine em_t (c := (I 1 1 : Int32) = (100 : Int32)) (fun q2 => ?_) (fun q2 => ?_)
    · replace h := ite_t h q2
      exact (fb_Rdr_advance_25 o0  h).trans F
    · replace h := ite_f h q2
      refine em_f (c := (I 1 1 : Int32) = (102 : Int32)) (fun q3 => ?_) (fun q3 => ?_)
      · replace h := ite_f h q3
        exact (fb_Rdr_advance_26 o0  h).trans F
      · replace h := ite_t h q3
        exact (fb_Rdr_advance_25 o0  h).trans F
set_option maxRecDepth 20000 in
set_option maxHeartbeats 4000000 in
theorem fb_Rdr_startOver_81 {n : Nat} {J : JM} {b : Nat} {r : IM} (o0 : b < 1 ∨ 1 + 6 ≤ b)   {I : IM} (h : b_Rdr_startOver_81 n J   I = some r) : r b = I b := by
  unfold b_Rdr_startOver_81 at h
  have F : I b = I b := rfl
  obtain ⟨I13, hI13, h⟩ := lt_x h
  replace F := (show I13 b = _ from by first | exact fr_up hI13 (by first | omega | (intro e; subst e; revert o0; decide)) | exact fr_fil hI13 (by omega) | exact fr_cpy hI13 (by omega)).trans F
  obtain ⟨v14, e15, h⟩ := bnd_e h
  replace F := (fr_Rdr_advance e15 (by first | omega | exact outA o0 (by decide))).trans F
  cases h
  exact F
set_option maxRecDepth 20000 in
set_option maxHeartbeats 4000000 in
theorem fl_Rdr_startOver_7 {n : Nat} {J : JM} {b : Nat} {r : IM} (o0 : b < 1 ∨ 1 + 6 ≤ b)  : ∀ (f : Nat) (x1 : Int32) (I : IM), l_Rdr_startOver_7 n J  f x1 I = some r → r b = I b
  | 0, _, _, h => by cases h
  | f + 1, x1, I, h => by
    have ih := fl_Rdr_startOver_7 (b := b) (r := r) (n := n)  (J := J) o0 f
    rw [l_Rdr_startOver_7] at h
    have F : I b = I b := rfl
    refine em_t (c := (901 : Int32) ≤ x1) (fun q2 => ?_) (fun q2 => ?_)
    · replace h := ite_t h q2
      exact (fb_Rdr_startOver_81 o0  h).trans F
    · replace h := ite_f h q2
      obtain ⟨v3, e4, h⟩ := bnd_e h
      replace F := (fr_Rdr_skipBlanks e4 (by first | omega | exact outA o0 (by decide))).trans F
      obtain ⟨c5, h⟩ := chk_e h
      obtain ⟨I6, hI6, h⟩ := lt_x h
      replace F := (show I6 b = _ from by first | exact fr_up hI6 (by first | omega | (intro e; subst e; revert o0; decide)) | exact fr_fil hI6 (by omega) | exact fr_cpy hI6 (by omega)).trans F
      obtain ⟨v7, e8, h⟩ := bnd_e h
      replace F := (fr_Rdr_readToken e8 (by first | omega | exact outA o0 (by decide))).trans F
      obtain ⟨I9, hI9, h⟩ := lt_x h
      replace F := (show I9 b = _ from by first | exact fr_up hI9 (by first | omega | (intro e; subst e; revert o0; decide)) | exact fr_fil hI9 (by omega) | exact fr_cpy hI9 (by omega)).trans F
      obtain ⟨I10, hI10, h⟩ := lt_x h
      replace F := (show I10 b = _ from by first | exact fr_up hI10 (by first | omega | (intro e; subst e; revert o0; decide)) | exact fr_fil hI10 (by omega) | exact fr_cpy hI10 (by omega)).trans F
      refine em_t (c := (I10 3 x1.toNatClampNeg : Int32) = (100 : Int32)) (fun q11 => ?_) (fun q11 => ?_)
      · replace h := ite_t h q11
        exact (fb_Rdr_startOver_81 o0  h).trans F
      · replace h := ite_f h q11
        refine em_f (c := (I10 3 x1.toNatClampNeg : Int32) = (102 : Int32)) (fun q12 => ?_) (fun q12 => ?_)
        · replace h := ite_f h q12
          exact (ih _ _ h).trans F
        · replace h := ite_t h q12
          exact (fb_Rdr_startOver_81 o0  h).trans F
set_option maxRecDepth 20000 in
set_option maxHeartbeats 4000000 in
theorem fr_Rdr_startOver {n : Nat} {J : JM} {I : IM} {b : Nat} {r : IM}  (h : f_Rdr_startOver n J I = some r) (o0 : b < 1 ∨ 1 + 6 ≤ b) : r b = I b := by
  unfold f_Rdr_startOver at h
  have F : I b = I b := rfl
  obtain ⟨I1, hI1, h⟩ := lt_x h
  replace F := (show I1 b = _ from by first | exact fr_up hI1 (by first | omega | (intro e; subst e; revert o0; decide)) | exact fr_fil hI1 (by omega) | exact fr_cpy hI1 (by omega)).trans F
  exact (fl_Rdr_startOver_7 o0  _ _ _ h).trans F
set_option maxRecDepth 20000 in
set_option maxHeartbeats 4000000 in
theorem fb_Img_readNumber_101 {b : Nat} {r : Int32 × IM} (o0 : b < 15 ∨ 15 + 1 ≤ b) (o1 : b < 1 ∨ 1 + 6 ≤ b)  {x3 : Int32} {I : IM} (h : b_Img_readNumber_101   x3 I = some r) : r.2 b = I b := by
  unfold b_Img_readNumber_101 at h
  have F : I b = I b := rfl
  obtain ⟨I13, hI13, h⟩ := lt_x h
  replace F := (show I13 b = _ from by first | exact fr_up hI13 (by first | omega | (intro e; subst e; revert o0; decide)) | exact fr_fil hI13 (by omega) | exact fr_cpy hI13 (by omega)).trans F
  cases h
  exact F
set_option maxRecDepth 20000 in
set_option maxHeartbeats 4000000 in
theorem fb_Img_readNumber_82 {b : Nat} {r : Int32 × IM} (o0 : b < 15 ∨ 15 + 1 ≤ b) (o1 : b < 1 ∨ 1 + 6 ≤ b)  {x1 : Int32} {x2 : Int32} {x3 : Int32} {y1 : Int32} {I : IM} (h : b_Img_readNumber_82   x1 x2 x3 y1 I = some r) : r.2 b = I b := by
  unfold b_Img_readNumber_82 at h
  have F : I b = I b := rfl
  obtain ⟨I8, hI8, h⟩ := lt_x h
  replace F := (show I8 b = _ from by first | exact fr_up hI8 (by first | omega | (intro e; subst e; revert o0; decide)) | exact fr_fil hI8 (by omega) | exact fr_cpy hI8 (by omega)).trans F
  refine em_t (c := (I8 15 3 : Int32) < x1) (fun q9 => ?_) (fun q9 => ?_)
  · replace h := ite_t h q9
    exact (fb_Img_readNumber_101 o0 o1  h).trans F
  · replace h := ite_f h q9
    refine em_t (c := (I8 15 3 : Int32) ≤ x2) (fun q10 => ?_) (fun q10 => ?_)
    · replace h := ite_t h q10
      obtain ⟨v11, e12, h⟩ := bnd_e h
      replace F := (fr_Rdr_advance e12 (by first | omega | exact outA o0 (by decide))).trans F
      cases h
      exact F
    · replace h := ite_f h q10
      exact (fb_Img_readNumber_101 o0 o1  h).trans F
set_option maxRecDepth 20000 in
set_option maxHeartbeats 4000000 in
theorem fb_Img_readNumber_44 {b : Nat} {r : Int32 × IM} (o0 : b < 15 ∨ 15 + 1 ≤ b) (o1 : b < 1 ∨ 1 + 6 ≤ b)  {x1 : Int32} {x2 : Int32} {x3 : Int32} {x4 : Int32} {I : IM} (h : b_Img_readNumber_44   x1 x2 x3 x4 I = some r) : r.2 b = I b := by
  unfold b_Img_readNumber_44 at h
  have F : I b = I b := rfl
  refine em_t (c := (I 1 1 : Int32) = (101 : Int32)) (fun q6 => ?_) (fun q6 => ?_)
  · replace h := ite_t h q6
    refine em_t (c := x4 = 0) (fun q7 => ?_) (fun q7 => ?_)
    · replace h := ite_t h q7
      exact (fb_Img_readNumber_82 o0 o1  h).trans F
    · replace h := ite_f h q7
      exact (fb_Img_readNumber_82 o0 o1  h).trans F
  · replace h := ite_f h q6
    cases h
    exact F
set_option maxRecDepth 20000 in
set_option maxHeartbeats 4000000 in
theorem fb_Img_readNumber_30 {b : Nat} {r : Int32 × IM} (o0 : b < 15 ∨ 15 + 1 ≤ b) (o1 : b < 1 ∨ 1 + 6 ≤ b)  {x1 : Int32} {x2 : Int32} {x3 : Int32} {y0 : Int32} {I : IM} (h : b_Img_readNumber_30   x1 x2 x3 y0 I = some r) : r.2 b = I b := by
  unfold b_Img_readNumber_30 at h
  have F : I b = I b := rfl
  refine em_t (c := y0 = 0) (fun q14 => ?_) (fun q14 => ?_)
  · replace h := ite_t h q14
    exact (fb_Img_readNumber_44 o0 o1  h).trans F
  · replace h := ite_f h q14
    obtain ⟨v15, e16, h⟩ := bnd_e h
    replace F := (fr_Rdr_advance e16 (by first | omega | exact outA o0 (by decide))).trans F
    exact (fb_Img_readNumber_44 o0 o1  h).trans F
set_option maxRecDepth 20000 in
set_option maxHeartbeats 4000000 in
theorem fb_Img_readNumber_29 {b : Nat} {r : Int32 × IM} (o0 : b < 15 ∨ 15 + 1 ≤ b) (o1 : b < 1 ∨ 1 + 6 ≤ b)  {x1 : Int32} {x2 : Int32} {x3 : Int32} {I : IM} (h : b_Img_readNumber_29   x1 x2 x3 I = some r) : r.2 b = I b := by
  unfold b_Img_readNumber_29 at h
  have F : I b = I b := rfl
  exact (fb_Img_readNumber_30 o0 o1  h).trans F
set_option maxRecDepth 20000 in
set_option maxHeartbeats 4000000 in
theorem fr_Img_readNumber {x1 : Int32} {x2 : Int32} {I : IM} {b : Nat} {r : Int32 × IM}  (h : f_Img_readNumber x1 x2 I = some r) (o0 : b < 15 ∨ 15 + 1 ≤ b) (o1 : b < 1 ∨ 1 + 6 ≤ b) : r.2 b = I b := by
  unfold f_Img_readNumber at h
  have F : I b = I b := rfl
  refine em_t (c := 0 ≤ x1) (fun q1 => ?_) (fun q1 => ?_)
  · replace h := ite_t h q1
    exact (fb_Img_readNumber_29 o0 o1  h).trans F
  · replace h := ite_f h q1
    refine em_t (c := (if (I 1 1 : Int32) = (173 : Int32) then 1 else 0 : Int32) = 0) (fun q3 => ?_) (fun q3 => ?_)
    · replace h := ite_t h q3
      exact (fb_Img_readNumber_44 o0 o1  h).trans F
    · replace h := ite_f h q3
      obtain ⟨v4, e5, h⟩ := bnd_e h
      replace F := (fr_Rdr_advance e5 (by first | omega | exact outA o0 (by decide))).trans F
      exact (fb_Img_readNumber_44 o0 o1  h).trans F
set_option maxRecDepth 20000 in
set_option maxHeartbeats 4000000 in
theorem fr_Img_readAny {I : IM} {b : Nat} {r : Int32 × IM}  (h : f_Img_readAny  I = some r) (o0 : b < 15 ∨ 15 + 1 ≤ b) (o1 : b < 1 ∨ 1 + 6 ≤ b) : r.2 b = I b := by
  unfold f_Img_readAny at h
  have F : I b = I b := rfl
  obtain ⟨v1, e2, h⟩ := bnd_e h
  replace F := (fr_Img_readNumber e2 (by first | omega | exact outA o0 (by decide)) (by first | omega | exact outA o0 (by decide))).trans F
  obtain ⟨c3, h⟩ := chk_e h
  cases h
  exact F
set_option maxRecDepth 20000 in
set_option maxHeartbeats 4000000 in
theorem fr_Rdr_take {x1 : Int32} {I : IM} {b : Nat} {r : Int32 × IM}  (h : f_Rdr_take x1 I = some r) (o0 : b < 1 ∨ 1 + 6 ≤ b) : r.2 b = I b := by
  unfold f_Rdr_take at h
  have F : I b = I b := rfl
  refine em_t (c := (I 1 1 : Int32) = x1) (fun q1 => ?_) (fun q1 => ?_)
  · replace h := ite_t h q1
    obtain ⟨v2, e3, h⟩ := bnd_e h
    replace F := (fr_Rdr_advance e3 (by first | omega | exact outA o0 (by decide))).trans F
    cases h
    exact F
  · replace h := ite_f h q1
    cases h
    exact F
set_option maxRecDepth 20000 in
set_option maxHeartbeats 4000000 in
theorem fr_Img_readClear {it : Nat} {I : IM} {b : Nat} {r : Int32 × IM}  (h : f_Img_readClear it I = some r) (o0 : b < it ∨ it + 19 ≤ b) (o1 : b < 1 ∨ 1 + 6 ≤ b) (o2 : b < 15 ∨ 15 + 1 ≤ b) : r.2 b = I b := by
  unfold f_Img_readClear at h
  have F : I b = I b := rfl
  obtain ⟨v1, e2, h⟩ := bnd_e h
  replace F := (fr_Rdr_advance e2 (by first | omega | exact outA o0 (by decide))).trans F
  obtain ⟨v3, e4, h⟩ := bnd_e h
  replace F := (fr_Img_readAny e4 (by first | omega | exact outA o0 (by decide)) (by first | omega | exact outA o0 (by decide))).trans F
  refine em_f (c := (v3.1 : Int32) = 0) (fun q5 => ?_) (fun q5 => ?_)
  · replace h := ite_f h q5
    obtain ⟨I6, hI6, h⟩ := lt_x h
    replace F := (show I6 b = _ from by first | exact fr_up hI6 (by first | omega | (intro e; subst e; revert o0; decide)) | exact fr_fil hI6 (by omega) | exact fr_cpy hI6 (by omega)).trans F
    obtain ⟨v7, e8, h⟩ := bnd_e h
    replace F := (fr_Rdr_take e8 (by first | omega | exact outA o0 (by decide))).trans F
    obtain ⟨c9, h⟩ := chk_e h
    cases h
    exact F
  · replace h := ite_t h q5
    cases h
    exact F
set_option maxRecDepth 20000 in
set_option maxHeartbeats 4000000 in
theorem fr_Img_readFieldNumber {x1 : Int32} {I : IM} {b : Nat} {r : Int32 × IM}  (h : f_Img_readFieldNumber x1 I = some r) (o0 : b < 15 ∨ 15 + 1 ≤ b) (o1 : b < 1 ∨ 1 + 6 ≤ b) : r.2 b = I b := by
  unfold f_Img_readFieldNumber at h
  have F : I b = I b := rfl
  refine em_f (c := x1 = (42 : Int32)) (fun q1 => ?_) (fun q1 => ?_)
  · replace h := ite_f h q1
    refine em_f (c := x1 = (32 : Int32)) (fun q2 => ?_) (fun q2 => ?_)
    · replace h := ite_f h q2
      obtain ⟨v3, e4, h⟩ := bnd_e h
      replace F := (fr_Img_readNumber e4 (by first | omega | exact outA o0 (by decide)) (by first | omega | exact outA o0 (by decide))).trans F
      obtain ⟨c5, h⟩ := chk_e h
      cases h
      exact F
    · replace h := ite_t h q2
      obtain ⟨v6, e7, h⟩ := bnd_e h
      replace F := (fr_Img_readNumber e7 (by first | omega | exact outA o0 (by decide)) (by first | omega | exact outA o0 (by decide))).trans F
      obtain ⟨c8, h⟩ := chk_e h
      cases h
      exact F
  · replace h := ite_t h q1
    obtain ⟨v9, e10, h⟩ := bnd_e h
    replace F := (fr_Img_readNumber e10 (by first | omega | exact outA o0 (by decide)) (by first | omega | exact outA o0 (by decide))).trans F
    obtain ⟨c11, h⟩ := chk_e h
    cases h
    exact F
set_option maxRecDepth 20000 in
set_option maxHeartbeats 4000000 in
theorem fb_Img_readInstruction_16 {n : Nat} {it : Nat} {b : Nat} {r : Int32 × IM} (o0 : b < 15 ∨ 15 + 1 ≤ b) (o1 : b < 1 ∨ 1 + 6 ≤ b) (o2 : b < it ∨ it + 19 ≤ b)   {I : IM} (h : b_Img_readInstruction_16 n it   I = some r) : r.2 b = I b := by
  unfold b_Img_readInstruction_16 at h
  have F : I b = I b := rfl
  cases h
  exact F
set_option maxRecDepth 20000 in
set_option maxHeartbeats 4000000 in
theorem fb_Img_readInstruction_128 {n : Nat} {it : Nat} {b : Nat} {r : Int32 × IM} (o0 : b < 15 ∨ 15 + 1 ≤ b) (o1 : b < 1 ∨ 1 + 6 ≤ b) (o2 : b < it ∨ it + 19 ≤ b) {H35 : Int32 → Int32 → Int32 → Int32 → IM → Option (Int32 × IM)} (hH35 : ∀ (x2 : Int32) (x3 : Int32) (x4 : Int32) (x5 : Int32) (I : IM), H35 x2 x3 x4 x5 I = some r → r.2 b = I b) {x2 : Int32} {x3 : Int32} {x4 : Int32} {x5 : Int32} {I : IM} (h : b_Img_readInstruction_128 n it H35 x2 x3 x4 x5 I = some r) : r.2 b = I b := by
  unfold b_Img_readInstruction_128 at h
  have F : I b = I b := rfl
  exact (hH35 _ _ _ _ _ h).trans F
set_option maxRecDepth 20000 in
set_option maxHeartbeats 4000000 in
theorem fb_Img_readInstruction_134 {n : Nat} {it : Nat} {b : Nat} {r : Int32 × IM} (o0 : b < 15 ∨ 15 + 1 ≤ b) (o1 : b < 1 ∨ 1 + 6 ≤ b) (o2 : b < it ∨ it + 19 ≤ b)  {x2 : Int32} {x3 : Int32} {I : IM} (h : b_Img_readInstruction_134 n it  x2 x3 I = some r) : r.2 b = I b := by
  unfold b_Img_readInstruction_134 at h
  have F : I b = I b := rfl
  obtain ⟨v18, e19, h⟩ := bnd_e h
  replace F := (fr_Mch_setCode e19 (by first | omega | exact outA o0 (by decide))).trans F
  obtain ⟨I20, hI20, h⟩ := lt_x h
  replace F := (show I20 b = _ from by first | exact fr_up hI20 (by first | omega | (intro e; subst e; revert o0; decide)) | exact fr_fil hI20 (by omega) | exact fr_cpy hI20 (by omega)).trans F
  cases h
  exact F
set_option maxRecDepth 20000 in
set_option maxHeartbeats 4000000 in
theorem fl_Img_readInstruction_35 {n : Nat} {it : Nat} {b : Nat} {r : Int32 × IM} (o0 : b < 15 ∨ 15 + 1 ≤ b) (o1 : b < 1 ∨ 1 + 6 ≤ b) (o2 : b < it ∨ it + 19 ≤ b)  : ∀ (f : Nat) (x2 : Int32) (x3 : Int32) (x4 : Int32) (x5 : Int32) (I : IM), l_Img_readInstruction_35 n it  f x2 x3 x4 x5 I = some r → r.2 b = I b
  | 0, _, _, _, _, _, h => by cases h
  | f + 1, x2, x3, x4, x5, I, h => by
    have ih := fl_Img_readInstruction_35 (b := b) (r := r) (n := n) (it := it)  o0 o1 o2 f
    rw [l_Img_readInstruction_35] at h
    have F : I b = I b := rfl
    refine em_t (c := (900 : Int32) ≤ x5) (fun q5 => ?_) (fun q5 => ?_)
    · replace h := ite_t h q5
      exact (fb_Img_readInstruction_134 o0 o1 o2  h).trans F
    · replace h := ite_f h q5
      obtain ⟨v6, e7, h⟩ := bnd_e h
      refine em_t (c := v6 = 0) (fun q8 => ?_) (fun q8 => ?_)
      · replace h := ite_t h q8
        exact (fb_Img_readInstruction_134 o0 o1 o2  h).trans F
      · replace h := ite_f h q8
        refine em_t (c := (x4 &&& v6 : Int32) = 0) (fun q9 => ?_) (fun q9 => ?_)
        · replace h := ite_t h q9
          obtain ⟨v10, e11, h⟩ := bnd_e h
          replace F := (fr_Rdr_advance e11 (by first | omega | exact outA o0 (by decide))).trans F
          obtain ⟨v12, e13, h⟩ := bnd_e h
          replace F := (fr_Img_readFieldNumber e13 (by first | omega | exact outA o0 (by decide)) (by first | omega | exact outA o0 (by decide))).trans F
          refine em_f (c := (v12.1 : Int32) = 0) (fun q14 => ?_) (fun q14 => ?_)
          · replace h := ite_f h q14
            refine em_f (c := (I 1 1 : Int32) = (42 : Int32)) (fun q15 => ?_) (fun q15 => ?_)
            · replace h := ite_f h q15
              obtain ⟨v16, e17, h⟩ := bnd_e h
              exact (fb_Img_readInstruction_128 o0 o1 o2 ih h).trans F
            · replace h := ite_t h q15
              exact (fb_Img_readInstruction_128 o0 o1 o2 ih h).trans F
          · replace h := ite_t h q14
            cases h
            exact F
        · replace h := ite_f h q9
          exact (fb_Img_readInstruction_134 o0 o1 o2  h).trans F
set_option maxRecDepth 20000 in
set_option maxHeartbeats 4000000 in
theorem fr_Img_readInstruction {n : Nat} {it : Nat} {x1 : Int32} {I : IM} {b : Nat} {r : Int32 × IM}  (h : f_Img_readInstruction n it x1 I = some r) (o0 : b < 15 ∨ 15 + 1 ≤ b) (o1 : b < 1 ∨ 1 + 6 ≤ b) (o2 : b < it ∨ it + 19 ≤ b) : r.2 b = I b := by
  unfold f_Img_readInstruction at h
  have F : I b = I b := rfl
  refine em_t (c := (I 15 2 : Int32) < 0) (fun q1 => ?_) (fun q1 => ?_)
  · replace h := ite_t h q1
    exact (fb_Img_readInstruction_16 o0 o1 o2  h).trans F
  · replace h := ite_f h q1
    refine em_t (c := (I 15 2 : Int32) < (64 : Int32)) (fun q2 => ?_) (fun q2 => ?_)
    · replace h := ite_t h q2
      obtain ⟨v3, e4, h⟩ := bnd_e h
      replace F := (fr_Rdr_advance e4 (by first | omega | exact outA o0 (by decide))).trans F
      exact (fl_Img_readInstruction_35 o0 o1 o2  _ _ _ _ _ _ h).trans F
    · replace h := ite_f h q2
      exact (fb_Img_readInstruction_16 o0 o1 o2  h).trans F
set_option maxRecDepth 20000 in
set_option maxHeartbeats 4000000 in
theorem fr_Img_readAt {I : IM} {b : Nat} {r : Int32 × IM}  (h : f_Img_readAt  I = some r) (o0 : b < 15 ∨ 15 + 1 ≤ b) (o1 : b < 1 ∨ 1 + 6 ≤ b) : r.2 b = I b := by
  unfold f_Img_readAt at h
  have F : I b = I b := rfl
  obtain ⟨v1, e2, h⟩ := bnd_e h
  replace F := (fr_Rdr_advance e2 (by first | omega | exact outA o0 (by decide))).trans F
  obtain ⟨v3, e4, h⟩ := bnd_e h
  replace F := (fr_Img_readNumber e4 (by first | omega | exact outA o0 (by decide)) (by first | omega | exact outA o0 (by decide))).trans F
  refine em_f (c := (v3.1 : Int32) = 0) (fun q5 => ?_) (fun q5 => ?_)
  · replace h := ite_f h q5
    obtain ⟨I6, hI6, h⟩ := lt_x h
    replace F := (show I6 b = _ from by first | exact fr_up hI6 (by first | omega | (intro e; subst e; revert o0; decide)) | exact fr_fil hI6 (by omega) | exact fr_cpy hI6 (by omega)).trans F
    cases h
    exact F
  · replace h := ite_t h q5
    cases h
    exact F
set_option maxRecDepth 20000 in
set_option maxHeartbeats 4000000 in
theorem fr_Img_readOptional {x1 : Int32} {I : IM} {b : Nat} {r : Int32 × IM}  (h : f_Img_readOptional x1 I = some r) (o0 : b < 15 ∨ 15 + 1 ≤ b) (o1 : b < 1 ∨ 1 + 6 ≤ b) : r.2 b = I b := by
  unfold f_Img_readOptional at h
  have F : I b = I b := rfl
  obtain ⟨I1, hI1, h⟩ := lt_x h
  replace F := (show I1 b = _ from by first | exact fr_up hI1 (by first | omega | (intro e; subst e; revert o0; decide)) | exact fr_fil hI1 (by omega) | exact fr_cpy hI1 (by omega)).trans F
  refine em_t (c := (I1 1 1 : Int32) = x1) (fun q2 => ?_) (fun q2 => ?_)
  · replace h := ite_t h q2
    obtain ⟨v3, e4, h⟩ := bnd_e h
    replace F := (fr_Rdr_advance e4 (by first | omega | exact outA o0 (by decide))).trans F
    obtain ⟨v5, e6, h⟩ := bnd_e h
    replace F := (fr_Img_readNumber e6 (by first | omega | exact outA o0 (by decide)) (by first | omega | exact outA o0 (by decide))).trans F
    obtain ⟨c7, h⟩ := chk_e h
    cases h
    exact F
  · replace h := ite_f h q2
    cases h
    exact F
set_option maxRecDepth 20000 in
set_option maxHeartbeats 4000000 in
theorem fr_Img_readWordLine {it : Nat} {I : IM} {b : Nat} {r : Int32 × IM}  (h : f_Img_readWordLine it I = some r) (o0 : b < 1 ∨ 1 + 6 ≤ b) (o1 : b < 15 ∨ 15 + 1 ≤ b) (o2 : b < it ∨ it + 19 ≤ b) : r.2 b = I b := by
  unfold f_Img_readWordLine at h
  have F : I b = I b := rfl
  obtain ⟨v1, e2, h⟩ := bnd_e h
  replace F := (fr_Rdr_advance e2 (by first | omega | exact outA o0 (by decide))).trans F
  obtain ⟨v3, e4, h⟩ := bnd_e h
  replace F := (fr_Img_readNumber e4 (by first | omega | exact outA o0 (by decide)) (by first | omega | exact outA o0 (by decide))).trans F
  refine em_f (c := (v3.1 : Int32) = 0) (fun q5 => ?_) (fun q5 => ?_)
  · replace h := ite_f h q5
    obtain ⟨v6, e7, h⟩ := bnd_e h
    replace F := (fr_Img_readAny e7 (by first | omega | exact outA o0 (by decide)) (by first | omega | exact outA o0 (by decide))).trans F
    refine em_f (c := (v6.1 : Int32) = 0) (fun q8 => ?_) (fun q8 => ?_)
    · replace h := ite_f h q8
      obtain ⟨v9, e10, h⟩ := bnd_e h
      replace F := (fr_Img_readOptional e10 (by first | omega | exact outA o0 (by decide)) (by first | omega | exact outA o0 (by decide))).trans F
      refine em_f (c := (v9.1 : Int32) = 0) (fun q11 => ?_) (fun q11 => ?_)
      · replace h := ite_f h q11
        obtain ⟨v12, e13, h⟩ := bnd_e h
        replace F := (fr_Img_readOptional e13 (by first | omega | exact outA o0 (by decide)) (by first | omega | exact outA o0 (by decide))).trans F
        refine em_f (c := (v12.1 : Int32) = 0) (fun q14 => ?_) (fun q14 => ?_)
        · replace h := ite_f h q14
          obtain ⟨v15, e16, h⟩ := bnd_e h
          replace F := (fr_Mch_setWord e16 (by first | omega | exact outA o0 (by decide))).trans F
          cases h
          exact F
        · replace h := ite_t h q14
          cases h
          exact F
      · replace h := ite_t h q11
        cases h
        exact F
    · replace h := ite_t h q8
      cases h
      exact F
  · replace h := ite_t h q5
    cases h
    exact F
set_option maxRecDepth 20000 in
set_option maxHeartbeats 4000000 in
theorem fr_Img_readRegister {it : Nat} {I : IM} {b : Nat} {r : Int32 × IM}  (h : f_Img_readRegister it I = some r) (o0 : b < 1 ∨ 1 + 6 ≤ b) (o1 : b < 15 ∨ 15 + 1 ≤ b) (o2 : b < it ∨ it + 19 ≤ b) : r.2 b = I b := by
  unfold f_Img_readRegister at h
  have F : I b = I b := rfl
  obtain ⟨v1, e2, h⟩ := bnd_e h
  replace F := (fr_Rdr_advance e2 (by first | omega | exact outA o0 (by decide))).trans F
  obtain ⟨v3, e4, h⟩ := bnd_e h
  replace F := (fr_Img_readNumber e4 (by first | omega | exact outA o0 (by decide)) (by first | omega | exact outA o0 (by decide))).trans F
  refine em_f (c := (v3.1 : Int32) = 0) (fun q5 => ?_) (fun q5 => ?_)
  · replace h := ite_f h q5
    obtain ⟨v6, e7, h⟩ := bnd_e h
    replace F := (fr_Img_readAny e7 (by first | omega | exact outA o0 (by decide)) (by first | omega | exact outA o0 (by decide))).trans F
    refine em_f (c := (v6.1 : Int32) = 0) (fun q8 => ?_) (fun q8 => ?_)
    · replace h := ite_f h q8
      obtain ⟨v9, e10, h⟩ := bnd_e h
      replace F := (fr_Img_readOptional e10 (by first | omega | exact outA o0 (by decide)) (by first | omega | exact outA o0 (by decide))).trans F
      refine em_f (c := (v9.1 : Int32) = 0) (fun q11 => ?_) (fun q11 => ?_)
      · replace h := ite_f h q11
        obtain ⟨v12, e13, h⟩ := bnd_e h
        replace F := (fr_Mch_setRegister e13 (by first | omega | exact outA o0 (by decide))).trans F
        cases h
        exact F
      · replace h := ite_t h q11
        cases h
        exact F
    · replace h := ite_t h q8
      cases h
      exact F
  · replace h := ite_t h q5
    cases h
    exact F
set_option maxRecDepth 20000 in
set_option maxHeartbeats 4000000 in
theorem fr_Img_readInput {it : Nat} {I : IM} {b : Nat} {r : Int32 × IM}  (h : f_Img_readInput it I = some r) (o0 : b < 1 ∨ 1 + 6 ≤ b) (o1 : b < 15 ∨ 15 + 1 ≤ b) (o2 : b < it ∨ it + 19 ≤ b) : r.2 b = I b := by
  unfold f_Img_readInput at h
  have F : I b = I b := rfl
  refine em_t (c := (I (it + 13) (5 : Int32).toNatClampNeg : Int32) < (16 : Int32)) (fun q1 => ?_) (fun q1 => ?_)
  · replace h := ite_t h q1
    obtain ⟨v2, e3, h⟩ := bnd_e h
    replace F := (fr_Rdr_advance e3 (by first | omega | exact outA o0 (by decide))).trans F
    obtain ⟨v4, e5, h⟩ := bnd_e h
    replace F := (fr_Img_readAny e5 (by first | omega | exact outA o0 (by decide)) (by first | omega | exact outA o0 (by decide))).trans F
    refine em_f (c := (v4.1 : Int32) = 0) (fun q6 => ?_) (fun q6 => ?_)
    · replace h := ite_f h q6
      obtain ⟨v7, e8, h⟩ := bnd_e h
      replace F := (fr_Img_readOptional e8 (by first | omega | exact outA o0 (by decide)) (by first | omega | exact outA o0 (by decide))).trans F
      refine em_f (c := (v7.1 : Int32) = 0) (fun q9 => ?_) (fun q9 => ?_)
      · replace h := ite_f h q9
        obtain ⟨v10, e11, h⟩ := bnd_e h
        replace F := (fr_Mch_addInput e11 (by first | omega | exact outA o0 (by decide))).trans F
        cases h
        exact F
      · replace h := ite_t h q9
        cases h
        exact F
    · replace h := ite_t h q6
      cases h
      exact F
  · replace h := ite_f h q1
    cases h
    exact F
set_option maxRecDepth 20000 in
set_option maxHeartbeats 4000000 in
theorem fr_Img_readLine {n : Nat} {it : Nat} {I : IM} {b : Nat} {r : Int32 × IM}  (h : f_Img_readLine n it I = some r) (o0 : b < 15 ∨ 15 + 1 ≤ b) (o1 : b < 1 ∨ 1 + 6 ≤ b) (o2 : b < it ∨ it + 19 ≤ b) : r.2 b = I b := by
  unfold f_Img_readLine at h
  have F : I b = I b := rfl
  refine em_t (c := (22 : Int32) ≤ (I 1 1 : Int32)) (fun q1 => ?_) (fun q1 => ?_)
  · replace h := ite_t h q1
    refine em_t (c := (I 1 1 : Int32) = 45) (fun q3 => ?_) (fun q3 => ?_)
    · replace h := ite_t h q3
      obtain ⟨v4, e5, h⟩ := bnd_e h
      replace F := (fr_Img_readAt e5 (by first | omega | exact outA o0 (by decide)) (by first | omega | exact outA o0 (by decide))).trans F
      obtain ⟨c6, h⟩ := chk_e h
      cases h
      exact F
    · replace h := ite_f h q3
      refine em_t (c := (I 1 1 : Int32) = 46) (fun q7 => ?_) (fun q7 => ?_)
      · replace h := ite_t h q7
        obtain ⟨v8, e9, h⟩ := bnd_e h
        replace F := (fr_Img_readWordLine e9 (by first | omega | exact outA o0 (by decide)) (by first | omega | exact outA o0 (by decide)) (by first | omega | exact outA o0 (by decide))).trans F
        obtain ⟨c10, h⟩ := chk_e h
        cases h
        exact F
      · replace h := ite_f h q7
        refine em_t (c := (I 1 1 : Int32) = 47) (fun q11 => ?_) (fun q11 => ?_)
        · replace h := ite_t h q11
          obtain ⟨v12, e13, h⟩ := bnd_e h
          replace F := (fr_Img_readRegister e13 (by first | omega | exact outA o0 (by decide)) (by first | omega | exact outA o0 (by decide)) (by first | omega | exact outA o0 (by decide))).trans F
          obtain ⟨c14, h⟩ := chk_e h
          cases h
          exact F
        · replace h := ite_f h q11
          refine em_t (c := (I 1 1 : Int32) = 48) (fun q15 => ?_) (fun q15 => ?_)
          · replace h := ite_t h q15
            obtain ⟨v16, e17, h⟩ := bnd_e h
            replace F := (fr_Img_readInput e17 (by first | omega | exact outA o0 (by decide)) (by first | omega | exact outA o0 (by decide)) (by first | omega | exact outA o0 (by decide))).trans F
            obtain ⟨c18, h⟩ := chk_e h
            cases h
            exact F
          · replace h := ite_f h q15
            cases h
            exact F
  · replace h := ite_f h q1
    obtain ⟨v19, e20, h⟩ := bnd_e h
    replace F := (fr_Img_readInstruction e20 (by first | omega | exact outA o0 (by decide)) (by first | omega | exact outA o0 (by decide)) (by first | omega | exact outA o0 (by decide))).trans F
    obtain ⟨c21, h⟩ := chk_e h
    cases h
    exact F
set_option maxRecDepth 20000 in
set_option maxHeartbeats 4000000 in
theorem fb_Img_read_100 {n : Nat} {it : Nat} {J : JM} {b : Nat} {r : Int32 × IM} (o0 : b < 15 ∨ 15 + 1 ≤ b) (o1 : b < it ∨ it + 19 ≤ b) (o2 : b < 1 ∨ 1 + 6 ≤ b) {H52 : Int32 → Int32 → IM → Option (Int32 × IM)} (hH52 : ∀ (x1 : Int32) (x2 : Int32) (I : IM), H52 x1 x2 I = some r → r.2 b = I b) {x2 : Int32} {y0 : Int32} {I : IM} (h : b_Img_read_100 n it J H52 x2 y0 I = some r) : r.2 b = I b := by
  unfold b_Img_read_100 at h
  have F : I b = I b := rfl
  exact (hH52 _ _ _ h).trans F
set_option maxRecDepth 20000 in
set_option maxHeartbeats 4000000 in
theorem fb_Img_read_99 {n : Nat} {it : Nat} {J : JM} {b : Nat} {r : Int32 × IM} (o0 : b < 15 ∨ 15 + 1 ≤ b) (o1 : b < it ∨ it + 19 ≤ b) (o2 : b < 1 ∨ 1 + 6 ≤ b) {H52 : Int32 → Int32 → IM → Option (Int32 × IM)} (hH52 : ∀ (x1 : Int32) (x2 : Int32) (I : IM), H52 x1 x2 I = some r → r.2 b = I b) {x2 : Int32} {I : IM} (h : b_Img_read_99 n it J H52 x2 I = some r) : r.2 b = I b := by
  unfold b_Img_read_99 at h
  have F : I b = I b := rfl
  exact (fb_Img_read_100 o0 o1 o2 hH52 h).trans F
set_option maxRecDepth 20000 in
set_option maxHeartbeats 4000000 in
theorem fb_Img_read_147 {n : Nat} {it : Nat} {J : JM} {b : Nat} {r : Int32 × IM} (o0 : b < 15 ∨ 15 + 1 ≤ b) (o1 : b < it ∨ it + 19 ≤ b) (o2 : b < 1 ∨ 1 + 6 ≤ b)  {y0 : Int32} {I : IM} (h : b_Img_read_147 n it J  y0 I = some r) : r.2 b = I b := by
  unfold b_Img_read_147 at h
  have F : I b = I b := rfl
  cases h
  exact F
set_option maxRecDepth 20000 in
set_option maxHeartbeats 4000000 in
theorem fb_Img_read_125 {n : Nat} {it : Nat} {J : JM} {b : Nat} {r : Int32 × IM} (o0 : b < 15 ∨ 15 + 1 ≤ b) (o1 : b < it ∨ it + 19 ≤ b) (o2 : b < 1 ∨ 1 + 6 ≤ b)   {I : IM} (h : b_Img_read_125 n it J   I = some r) : r.2 b = I b := by
  unfold b_Img_read_125 at h
  have F : I b = I b := rfl
  refine em_f (c := (I 15 4 : Int32) = ((-1) : Int32)) (fun q22 => ?_) (fun q22 => ?_)
  · replace h := ite_f h q22
    exact (fb_Img_read_147 o0 o1 o2  h).trans F
  · replace h := ite_t h q22
    exact (fb_Img_read_147 o0 o1 o2  h).trans F
set_option maxRecDepth 20000 in
set_option maxHeartbeats 4000000 in
theorem fb_Img_read_107 {n : Nat} {it : Nat} {J : JM} {b : Nat} {r : Int32 × IM} (o0 : b < 15 ∨ 15 + 1 ≤ b) (o1 : b < it ∨ it + 19 ≤ b) (o2 : b < 1 ∨ 1 + 6 ≤ b)  {x1 : Int32} {I : IM} (h : b_Img_read_107 n it J  x1 I = some r) : r.2 b = I b := by
  unfold b_Img_read_107 at h
  have F : I b = I b := rfl
  refine em_t (c := x1 = 0) (fun q20 => ?_) (fun q20 => ?_)
  · replace h := ite_t h q20
    exact (fb_Img_read_125 o0 o1 o2  h).trans F
  · replace h := ite_f h q20
    refine em_f (c := (I 1 1 : Int32) = (100 : Int32)) (fun q21 => ?_) (fun q21 => ?_)
    · replace h := ite_f h q21
      exact (fb_Img_read_125 o0 o1 o2  h).trans F
    · replace h := ite_t h q21
      cases h
      exact F
set_option maxRecDepth 20000 in
set_option maxHeartbeats 4000000 in
theorem fl_Img_read_52 {n : Nat} {it : Nat} {J : JM} {b : Nat} {r : Int32 × IM} (o0 : b < 15 ∨ 15 + 1 ≤ b) (o1 : b < it ∨ it + 19 ≤ b) (o2 : b < 1 ∨ 1 + 6 ≤ b)  : ∀ (f : Nat) (x1 : Int32) (x2 : Int32) (I : IM), l_Img_read_52 n it J  f x1 x2 I = some r → r.2 b = I b
  | 0, _, _, _, h => by cases h
  | f + 1, x1, x2, I, h => by
    have ih := fl_Img_read_52 (b := b) (r := r) (n := n) (it := it) (J := J) o0 o1 o2 f
    rw [l_Img_read_52] at h
    have F : I b = I b := rfl
    refine em_t (c := (900 : Int32) ≤ x2) (fun q11 => ?_) (fun q11 => ?_)
    · replace h := ite_t h q11
      exact (fb_Img_read_107 o0 o1 o2  h).trans F
    · replace h := ite_f h q11
      refine em_t (c := x1 = 0) (fun q12 => ?_) (fun q12 => ?_)
      · replace h := ite_t h q12
        exact (fb_Img_read_107 o0 o1 o2  h).trans F
      · replace h := ite_f h q12
        refine em_t (c := (I 1 1 : Int32) = (100 : Int32)) (fun q13 => ?_) (fun q13 => ?_)
        · replace h := ite_t h q13
          exact (fb_Img_read_107 o0 o1 o2  h).trans F
        · replace h := ite_f h q13
          obtain ⟨v14, e15, h⟩ := bnd_e h
          replace F := (fr_Img_readLine e15 (by first | omega | exact outA o0 (by decide)) (by first | omega | exact outA o0 (by decide)) (by first | omega | exact outA o0 (by decide))).trans F
          refine em_t (c := (v14.1 : Int32) = 0) (fun q16 => ?_) (fun q16 => ?_)
          · replace h := ite_t h q16
            exact (fb_Img_read_99 o0 o1 o2 ih h).trans F
          · replace h := ite_f h q16
            obtain ⟨v17, e18, h⟩ := bnd_e h
            replace F := (fr_Rdr_take e18 (by first | omega | exact outA o0 (by decide))).trans F
            exact (ih _ _ _ h).trans F
set_option maxRecDepth 20000 in
set_option maxHeartbeats 4000000 in
theorem fb_Img_read_49 {n : Nat} {it : Nat} {J : JM} {b : Nat} {r : Int32 × IM} (o0 : b < 15 ∨ 15 + 1 ≤ b) (o1 : b < it ∨ it + 19 ≤ b) (o2 : b < 1 ∨ 1 + 6 ≤ b)  {y0 : Int32} {I : IM} (h : b_Img_read_49 n it J  y0 I = some r) : r.2 b = I b := by
  unfold b_Img_read_49 at h
  have F : I b = I b := rfl
  exact (fl_Img_read_52 o0 o1 o2  _ _ _ _ h).trans F
set_option maxRecDepth 20000 in
set_option maxHeartbeats 4000000 in
theorem fb_Img_read_44 {n : Nat} {it : Nat} {J : JM} {b : Nat} {r : Int32 × IM} (o0 : b < 15 ∨ 15 + 1 ≤ b) (o1 : b < it ∨ it + 19 ≤ b) (o2 : b < 1 ∨ 1 + 6 ≤ b)   {I : IM} (h : b_Img_read_44 n it J   I = some r) : r.2 b = I b := by
  unfold b_Img_read_44 at h
  have F : I b = I b := rfl
  exact (fb_Img_read_49 o0 o1 o2  h).trans F
set_option maxRecDepth 20000 in
set_option maxHeartbeats 4000000 in
theorem fr_Img_read {n : Nat} {it : Nat} {J : JM} {I : IM} {b : Nat} {r : Int32 × IM}  (h : f_Img_read n it J I = some r) (o0 : b < 15 ∨ 15 + 1 ≤ b) (o1 : b < it ∨ it + 19 ≤ b) (o2 : b < 1 ∨ 1 + 6 ≤ b) : r.2 b = I b := by
  unfold f_Img_read at h
  have F : I b = I b := rfl
  obtain ⟨v1, e2, h⟩ := bnd_e h
  replace F := (fr_Mch_restart e2 (by first | omega | exact outA o0 (by decide))).trans F
  obtain ⟨I3, hI3, h⟩ := lt_x h
  replace F := (show I3 b = _ from by first | exact fr_up hI3 (by first | omega | (intro e; subst e; revert o0; decide)) | exact fr_fil hI3 (by omega) | exact fr_cpy hI3 (by omega)).trans F
  obtain ⟨I4, hI4, h⟩ := lt_x h
  replace F := (show I4 b = _ from by first | exact fr_up hI4 (by first | omega | (intro e; subst e; revert o0; decide)) | exact fr_fil hI4 (by omega) | exact fr_cpy hI4 (by omega)).trans F
  obtain ⟨v5, e6, h⟩ := bnd_e h
  replace F := (fr_Rdr_startOver e6 (by first | omega | exact outA o0 (by decide))).trans F
  refine em_f (c := (v5 1 1 : Int32) = (35 : Int32)) (fun q7 => ?_) (fun q7 => ?_)
  · replace h := ite_f h q7
    exact (fb_Img_read_44 o0 o1 o2  h).trans F
  · replace h := ite_t h q7
    obtain ⟨v8, e9, h⟩ := bnd_e h
    replace F := (fr_Img_readClear e9 (by first | omega | exact outA o0 (by decide)) (by first | omega | exact outA o0 (by decide)) (by first | omega | exact outA o0 (by decide))).trans F
    exact (fl_Img_read_52 o0 o1 o2  _ _ _ _ h).trans F
set_option maxRecDepth 20000 in
set_option maxHeartbeats 4000000 in
theorem fr_Mch_forgetAnswers {x0 : Nat} {I : IM} {b : Nat} {r : IM}  (h : f_Mch_forgetAnswers x0 I = some r) (o0 : b < x0 ∨ x0 + 19 ≤ b) : r b = I b := by
  unfold f_Mch_forgetAnswers at h
  have F : I b = I b := rfl
  obtain ⟨v1, e2, h⟩ := bnd_e h
  replace F := (fr_Rng_empty e2 (by first | omega | exact outA o0 (by decide))).trans F
  obtain ⟨I3, hI3, h⟩ := lt_x h
  replace F := (show I3 b = _ from by first | exact fr_up hI3 (by first | omega | (intro e; subst e; revert o0; decide)) | exact fr_fil hI3 (by omega) | exact fr_cpy hI3 (by omega)).trans F
  obtain ⟨I4, hI4, h⟩ := lt_x h
  replace F := (show I4 b = _ from by first | exact fr_up hI4 (by first | omega | (intro e; subst e; revert o0; decide)) | exact fr_fil hI4 (by omega) | exact fr_cpy hI4 (by omega)).trans F
  cases h
  exact F
set_option maxRecDepth 20000 in
set_option maxHeartbeats 4000000 in
theorem fr_Pol_empty {x0 : Nat} {I : IM} {b : Nat} {r : IM}  (h : f_Pol_empty x0 I = some r) (o0 : b < x0 ∨ x0 + 7 ≤ b) : r b = I b := by
  unfold f_Pol_empty at h
  have F : I b = I b := rfl
  obtain ⟨I1, hI1, h⟩ := lt_x h
  replace F := (show I1 b = _ from by first | exact fr_up hI1 (by first | omega | (intro e; subst e; revert o0; decide)) | exact fr_fil hI1 (by omega) | exact fr_cpy hI1 (by omega)).trans F
  obtain ⟨I2, hI2, h⟩ := lt_x h
  replace F := (show I2 b = _ from by first | exact fr_up hI2 (by first | omega | (intro e; subst e; revert o0; decide)) | exact fr_fil hI2 (by omega) | exact fr_cpy hI2 (by omega)).trans F
  cases h
  exact F
set_option maxRecDepth 20000 in
set_option maxHeartbeats 4000000 in
theorem fb_Pol_append_31 {x0 : Nat} {b : Nat} {r : Int32 × IM} (o0 : b < x0 ∨ x0 + 7 ≤ b)   {I : IM} (h : b_Pol_append_31 x0   I = some r) : r.2 b = I b := by
  unfold b_Pol_append_31 at h
  have F : I b = I b := rfl
  cases h
  exact F
set_option maxRecDepth 20000 in
set_option maxHeartbeats 4000000 in
theorem fr_Pol_append {x0 : Nat} {x1 : Int32} {x2 : Int32} {I : IM} {b : Nat} {r : Int32 × IM}  (h : f_Pol_append x0 x1 x2 I = some r) (o0 : b < x0 ∨ x0 + 7 ≤ b) : r.2 b = I b := by
  unfold f_Pol_append at h
  have F : I b = I b := rfl
  refine em_t (c := (I x0 0 : Int32) < 0) (fun q1 => ?_) (fun q1 => ?_)
  · replace h := ite_t h q1
    exact (fb_Pol_append_31 o0  h).trans F
  · replace h := ite_f h q1
    refine em_t (c := (900 : Int32) ≤ (I x0 0 : Int32)) (fun q2 => ?_) (fun q2 => ?_)
    · replace h := ite_t h q2
      exact (fb_Pol_append_31 o0  h).trans F
    · replace h := ite_f h q2
      refine em_t (c := (I x0 0 : Int32) < (900 : Int32)) (fun q3 => ?_) (fun q3 => ?_)
      · replace h := ite_t h q3
        obtain ⟨c4, h⟩ := chk_e h
        obtain ⟨I5, hI5, h⟩ := lt_x h
        replace F := (show I5 b = _ from by first | exact fr_up hI5 (by first | omega | (intro e; subst e; revert o0; decide)) | exact fr_fil hI5 (by omega) | exact fr_cpy hI5 (by omega)).trans F
        obtain ⟨c6, h⟩ := chk_e h
        obtain ⟨I7, hI7, h⟩ := lt_x h
        replace F := (show I7 b = _ from by first | exact fr_up hI7 (by first | omega | (intro e; subst e; revert o0; decide)) | exact fr_fil hI7 (by omega) | exact fr_cpy hI7 (by omega)).trans F
        obtain ⟨I8, hI8, h⟩ := lt_x h
        replace F := (show I8 b = _ from by first | exact fr_up hI8 (by first | omega | (intro e; subst e; revert o0; decide)) | exact fr_fil hI8 (by omega) | exact fr_cpy hI8 (by omega)).trans F
        cases h
        exact F
      · replace h := ite_f h q3
        exact (fb_Pol_append_31 o0  h).trans F
set_option maxRecDepth 20000 in
set_option maxHeartbeats 4000000 in
theorem fb_Pol_landHere_23 {x0 : Nat} {b : Nat} {r : IM} (o0 : b < x0 ∨ x0 + 7 ≤ b)   {I : IM} (h : b_Pol_landHere_23 x0   I = some r) : r b = I b := by
  unfold b_Pol_landHere_23 at h
  have F : I b = I b := rfl
  cases h
  exact F
set_option maxRecDepth 20000 in
set_option maxHeartbeats 4000000 in
theorem fr_Pol_landHere {x0 : Nat} {x1 : Int32} {I : IM} {b : Nat} {r : IM}  (h : f_Pol_landHere x0 x1 I = some r) (o0 : b < x0 ∨ x0 + 7 ≤ b) : r b = I b := by
  unfold f_Pol_landHere at h
  have F : I b = I b := rfl
  refine em_t (c := x1 < 0) (fun q1 => ?_) (fun q1 => ?_)
  · replace h := ite_t h q1
    exact (fb_Pol_landHere_23 o0  h).trans F
  · replace h := ite_f h q1
    refine em_t (c := (900 : Int32) ≤ x1) (fun q2 => ?_) (fun q2 => ?_)
    · replace h := ite_t h q2
      exact (fb_Pol_landHere_23 o0  h).trans F
    · replace h := ite_f h q2
      obtain ⟨c3, h⟩ := chk_e h
      obtain ⟨I4, hI4, h⟩ := lt_x h
      replace F := (show I4 b = _ from by first | exact fr_up hI4 (by first | omega | (intro e; subst e; revert o0; decide)) | exact fr_fil hI4 (by omega) | exact fr_cpy hI4 (by omega)).trans F
      exact (fb_Pol_landHere_23 o0  h).trans F
set_option maxRecDepth 20000 in
set_option maxHeartbeats 4000000 in
theorem fb_Pol_addRule_55 {n : Nat} {x0 : Nat} {b : Nat} {r : IM} (o0 : b < x0 ∨ x0 + 7 ≤ b) {H3 : Int32 → Int32 → Int32 → Int32 → Int32 → IM → Option (IM)} (hH3 : ∀ (x1 : Int32) (x2 : Int32) (x3 : Int32) (x4 : Int32) (x5 : Int32) (I : IM), H3 x1 x2 x3 x4 x5 I = some r → r b = I b) {x1 : Int32} {x2 : Int32} {x3 : Int32} {x4 : Int32} {x5 : Int32} {I : IM} (h : b_Pol_addRule_55 n x0 H3 x1 x2 x3 x4 x5 I = some r) : r b = I b := by
  unfold b_Pol_addRule_55 at h
  have F : I b = I b := rfl
  exact (hH3 _ _ _ _ _ _ h).trans F
set_option maxRecDepth 20000 in
set_option maxHeartbeats 4000000 in
theorem fl_Pol_addRule_3 {n : Nat} {x0 : Nat} {b : Nat} {r : IM} (o0 : b < x0 ∨ x0 + 7 ≤ b)  : ∀ (f : Nat) (x1 : Int32) (x2 : Int32) (x3 : Int32) (x4 : Int32) (x5 : Int32) (I : IM), l_Pol_addRule_3 n x0  f x1 x2 x3 x4 x5 I = some r → r b = I b
  | 0, _, _, _, _, _, _, h => by cases h
  | f + 1, x1, x2, x3, x4, x5, I, h => by
    have ih := fl_Pol_addRule_3 (b := b) (r := r) (n := n) (x0 := x0)  o0 f
    rw [l_Pol_addRule_3] at h
    have F : I b = I b := rfl
    refine em_t (c := (22 : Int32) ≤ x5) (fun q1 => ?_) (fun q1 => ?_)
    · replace h := ite_t h q1
      cases h
      exact F
    · replace h := ite_f h q1
      refine em_t (c := (((x1 : Int32) >>> ((x5 : Int32) &&& 31)) &&& 1 : Int32) = 0) (fun q2 => ?_) (fun q2 => ?_)
      · replace h := ite_t h q2
        exact (fb_Pol_addRule_55 o0 ih h).trans F
      · replace h := ite_f h q2
        obtain ⟨c3, h⟩ := chk_e h
        obtain ⟨I4, hI4, h⟩ := lt_x h
        replace F := (show I4 b = _ from by first | exact fr_up hI4 (by first | omega | (intro e; subst e; revert o0; decide)) | exact fr_fil hI4 (by omega) | exact fr_cpy hI4 (by omega)).trans F
        obtain ⟨I5, hI5, h⟩ := lt_x h
        replace F := (show I5 b = _ from by first | exact fr_up hI5 (by first | omega | (intro e; subst e; revert o0; decide)) | exact fr_fil hI5 (by omega) | exact fr_cpy hI5 (by omega)).trans F
        obtain ⟨I6, hI6, h⟩ := lt_x h
        replace F := (show I6 b = _ from by first | exact fr_up hI6 (by first | omega | (intro e; subst e; revert o0; decide)) | exact fr_fil hI6 (by omega) | exact fr_cpy hI6 (by omega)).trans F
        obtain ⟨I7, hI7, h⟩ := lt_x h
        replace F := (show I7 b = _ from by first | exact fr_up hI7 (by first | omega | (intro e; subst e; revert o0; decide)) | exact fr_fil hI7 (by omega) | exact fr_cpy hI7 (by omega)).trans F
        exact (fb_Pol_addRule_55 o0 ih h).trans F
set_option maxRecDepth 20000 in
set_option maxHeartbeats 4000000 in
theorem fr_Pol_addRule {n : Nat} {x0 : Nat} {x1 : Int32} {x2 : Int32} {x3 : Int32} {x4 : Int32} {I : IM} {b : Nat} {r : IM}  (h : f_Pol_addRule n x0 x1 x2 x3 x4 I = some r) (o0 : b < x0 ∨ x0 + 7 ≤ b) : r b = I b := by
  unfold f_Pol_addRule at h
  have F : I b = I b := rfl
  exact (fl_Pol_addRule_3 o0  _ _ _ _ _ _ _ h).trans F
set_option maxRecDepth 20000 in
set_option maxHeartbeats 4000000 in
theorem fb_Prd_readKinds_33 {n : Nat} {b : Nat} {r : Int32 × IM} (o0 : b < 7 ∨ 7 + 1 ≤ b) (o1 : b < 1 ∨ 1 + 6 ≤ b)   {I : IM} (h : b_Prd_readKinds_33 n   I = some r) : r.2 b = I b := by
  unfold b_Prd_readKinds_33 at h
  have F : I b = I b := rfl
  cases h
  exact F
set_option maxRecDepth 20000 in
set_option maxHeartbeats 4000000 in
theorem fl_Prd_readKinds_2 {n : Nat} {b : Nat} {r : Int32 × IM} (o0 : b < 7 ∨ 7 + 1 ≤ b) (o1 : b < 1 ∨ 1 + 6 ≤ b)  : ∀ (f : Nat) (x1 : Int32) (I : IM), l_Prd_readKinds_2 n  f x1 I = some r → r.2 b = I b
  | 0, _, _, h => by cases h
  | f + 1, x1, I, h => by
    have ih := fl_Prd_readKinds_2 (b := b) (r := r) (n := n)   o0 o1 f
    rw [l_Prd_readKinds_2] at h
    have F : I b = I b := rfl
    refine em_t (c := (22 : Int32) ≤ x1) (fun q1 => ?_) (fun q1 => ?_)
    · replace h := ite_t h q1
      cases h
      exact F
    · replace h := ite_f h q1
      refine em_t (c := (22 : Int32) ≤ (I 1 1 : Int32)) (fun q2 => ?_) (fun q2 => ?_)
      · replace h := ite_t h q2
        exact (fb_Prd_readKinds_33 o0 o1  h).trans F
      · replace h := ite_f h q2
        refine em_t (c := (((I 7 2 : Int32) >>> ((I 1 1 : Int32) &&& 31)) &&& 1 : Int32) = 0) (fun q3 => ?_) (fun q3 => ?_)
        · replace h := ite_t h q3
          obtain ⟨I4, hI4, h⟩ := lt_x h
          replace F := (show I4 b = _ from by first | exact fr_up hI4 (by first | omega | (intro e; subst e; revert o0; decide)) | exact fr_fil hI4 (by omega) | exact fr_cpy hI4 (by omega)).trans F
          obtain ⟨v5, e6, h⟩ := bnd_e h
          replace F := (fr_Rdr_advance e6 (by first | omega | exact outA o0 (by decide))).trans F
          refine em_t (c := (v5 1 1 : Int32) = (172 : Int32)) (fun q7 => ?_) (fun q7 => ?_)
          · replace h := ite_t h q7
            obtain ⟨v8, e9, h⟩ := bnd_e h
            replace F := (fr_Rdr_advance e9 (by first | omega | exact outA o0 (by decide))).trans F
            exact (ih _ _ h).trans F
          · replace h := ite_f h q7
            cases h
            exact F
        · replace h := ite_f h q3
          exact (fb_Prd_readKinds_33 o0 o1  h).trans F
set_option maxRecDepth 20000 in
set_option maxHeartbeats 4000000 in
theorem fr_Prd_readKinds {n : Nat} {I : IM} {b : Nat} {r : Int32 × IM}  (h : f_Prd_readKinds n I = some r) (o0 : b < 7 ∨ 7 + 1 ≤ b) (o1 : b < 1 ∨ 1 + 6 ≤ b) : r.2 b = I b := by
  unfold f_Prd_readKinds at h
  have F : I b = I b := rfl
  exact (fl_Prd_readKinds_2 o0 o1  _ _ _ h).trans F
set_option maxRecDepth 20000 in
set_option maxHeartbeats 4000000 in
theorem fr_Prd_readTurned {pt : Nat} {E T : RF} {x1 : Int32} {x2 : Int32} {I : IM} {b : Nat} {r : Int32 × IM} (fE : ∀ x I r, E x I = some r → r.2 b = I b) (fT0 : ∀ x I r, T x I = some r → r.2 b = I b)  (h : f_Prd_readTurned pt E T x1 x2 I = some r) (o0 : b < 1 ∨ 1 + 6 ≤ b) (o1 : b < pt ∨ pt + 7 ≤ b) : r.2 b = I b := by
  unfold f_Prd_readTurned at h
  have F : I b = I b := rfl
  refine em_t (c := x2 < (10 : Int32)) (fun q1 => ?_) (fun q1 => ?_)
  · replace h := ite_t h q1
    obtain ⟨v2, e3, h⟩ := bnd_e h
    replace F := (fr_Rdr_advance e3 (by first | omega | exact outA o0 (by decide))).trans F
    obtain ⟨v4, e5, h⟩ := bnd_e h
    replace F := (fT0 _ _ _ e5).trans F
    refine em_f (c := (v4.1 : Int32) = 0) (fun q6 => ?_) (fun q6 => ?_)
    · replace h := ite_f h q6
      obtain ⟨v8, e9, h⟩ := bnd_e h
      replace F := (fr_Pol_append e9 (by first | omega | exact outA o0 (by decide))).trans F
      cases h
      exact F
    · replace h := ite_t h q6
      cases h
      exact F
  · replace h := ite_f h q1
    cases h
    exact F
set_option maxRecDepth 20000 in
set_option maxHeartbeats 4000000 in
theorem fb_Prd_readBracket_19 {pt : Nat} {E T : RF} {b : Nat} {r : Int32 × IM} (fE : ∀ x I r, E x I = some r → r.2 b = I b) (fT0 : ∀ x I r, T x I = some r → r.2 b = I b) (o0 : b < 1 ∨ 1 + 6 ≤ b)   {I : IM} (h : b_Prd_readBracket_19 pt E T   I = some r) : r.2 b = I b := by
  unfold b_Prd_readBracket_19 at h
  have F : I b = I b := rfl
  cases h
  exact F
set_option maxRecDepth 20000 in
set_option maxHeartbeats 4000000 in
theorem fb_Prd_readBracket_67 {pt : Nat} {E T : RF} {b : Nat} {r : Int32 × IM} (fE : ∀ x I r, E x I = some r → r.2 b = I b) (fT0 : ∀ x I r, T x I = some r → r.2 b = I b) (o0 : b < 1 ∨ 1 + 6 ≤ b)   {I : IM} (h : b_Prd_readBracket_67 pt E T   I = some r) : r.2 b = I b := by
  unfold b_Prd_readBracket_67 at h
  have F : I b = I b := rfl
  cases h
  exact F
set_option maxRecDepth 20000 in
set_option maxHeartbeats 4000000 in
theorem fb_Prd_readBracket_69 {pt : Nat} {E T : RF} {b : Nat} {r : Int32 × IM} (fE : ∀ x I r, E x I = some r → r.2 b = I b) (fT0 : ∀ x I r, T x I = some r → r.2 b = I b) (o0 : b < 1 ∨ 1 + 6 ≤ b)   {I : IM} (h : b_Prd_readBracket_69 pt E T   I = some r) : r.2 b = I b := by
  unfold b_Prd_readBracket_69 at h
  have F : I b = I b := rfl
  obtain ⟨v15, e16, h⟩ := bnd_e h
  replace F := (fr_Rdr_take e16 (by first | omega | exact outA o0 (by decide))).trans F
  obtain ⟨c17, h⟩ := chk_e h
  cases h
  exact F
set_option maxRecDepth 20000 in
set_option maxHeartbeats 4000000 in
theorem fr_Prd_readBracket {pt : Nat} {E T : RF} {x1 : Int32} {x2 : Int32} {I : IM} {b : Nat} {r : Int32 × IM} (fE : ∀ x I r, E x I = some r → r.2 b = I b) (fT0 : ∀ x I r, T x I = some r → r.2 b = I b)  (h : f_Prd_readBracket pt E T x1 x2 I = some r) (o0 : b < 1 ∨ 1 + 6 ≤ b) : r.2 b = I b := by
  unfold f_Prd_readBracket at h
  have F : I b = I b := rfl
  refine em_f (c := (I 1 1 : Int32) = (168 : Int32)) (fun q1 => ?_) (fun q1 => ?_)
  · replace h := ite_f h q1
    exact (fb_Prd_readBracket_19 fE fT0 o0  h).trans F
  · replace h := ite_t h q1
    refine em_t (c := x1 < (10 : Int32)) (fun q2 => ?_) (fun q2 => ?_)
    · replace h := ite_t h q2
      obtain ⟨v3, e4, h⟩ := bnd_e h
      replace F := (fr_Rdr_advance e4 (by first | omega | exact outA o0 (by decide))).trans F
      obtain ⟨v5, e6, h⟩ := bnd_e h
      replace F := (fE _ _ _ e6).trans F
      refine em_f (c := (v5.1 : Int32) = 0) (fun q7 => ?_) (fun q7 => ?_)
      · replace h := ite_f h q7
        refine em_t (c := x2 = 0) (fun q8 => ?_) (fun q8 => ?_)
        · replace h := ite_t h q8
          exact (fb_Prd_readBracket_69 fE fT0 o0  h).trans F
        · replace h := ite_f h q8
          obtain ⟨v9, e10, h⟩ := bnd_e h
          replace F := (fr_Rdr_take e10 (by first | omega | exact outA o0 (by decide))).trans F
          refine em_t (c := (v9.1 : Int32) = 0) (fun q11 => ?_) (fun q11 => ?_)
          · replace h := ite_t h q11
            exact (fb_Prd_readBracket_67 fE fT0 o0  h).trans F
          · replace h := ite_f h q11
            obtain ⟨v12, e13, h⟩ := bnd_e h
            replace F := (fE _ _ _ e13).trans F
            refine em_f (c := (v12.1 : Int32) = 0) (fun q14 => ?_) (fun q14 => ?_)
            · replace h := ite_f h q14
              exact (fb_Prd_readBracket_69 fE fT0 o0  h).trans F
            · replace h := ite_t h q14
              exact (fb_Prd_readBracket_67 fE fT0 o0  h).trans F
      · replace h := ite_t h q7
        cases h
        exact F
    · replace h := ite_f h q2
      exact (fb_Prd_readBracket_19 fE fT0 o0  h).trans F
set_option maxRecDepth 20000 in
set_option maxHeartbeats 4000000 in
theorem fb_Prd_readCall_75 {pt : Nat} {E T : RF} {b : Nat} {r : Int32 × IM} (fE : ∀ x I r, E x I = some r → r.2 b = I b) (fT0 : ∀ x I r, T x I = some r → r.2 b = I b) (o0 : b < 7 ∨ 7 + 1 ≤ b) (o1 : b < 1 ∨ 1 + 6 ≤ b) (o2 : b < pt ∨ pt + 7 ≤ b)   {I : IM} (h : b_Prd_readCall_75 pt E T   I = some r) : r.2 b = I b := by
  unfold b_Prd_readCall_75 at h
  have F : I b = I b := rfl
  cases h
  exact F
set_option maxRecDepth 20000 in
set_option maxHeartbeats 4000000 in
theorem fr_Prd_readCall {pt : Nat} {E T : RF} {x1 : Int32} {x2 : Int32} {I : IM} {b : Nat} {r : Int32 × IM} (fE : ∀ x I r, E x I = some r → r.2 b = I b) (fT0 : ∀ x I r, T x I = some r → r.2 b = I b)  (h : f_Prd_readCall pt E T x1 x2 I = some r) (o0 : b < 7 ∨ 7 + 1 ≤ b) (o1 : b < 1 ∨ 1 + 6 ≤ b) (o2 : b < pt ∨ pt + 7 ≤ b) : r.2 b = I b := by
  unfold f_Prd_readCall at h
  have F : I b = I b := rfl
  obtain ⟨v1, e2, h⟩ := bnd_e h
  replace F := (fr_Rdr_advance e2 (by first | omega | exact outA o0 (by decide))).trans F
  obtain ⟨v4, e5, h⟩ := bnd_e h
  replace F := (fr_Prd_readBracket fE fT0 e5 (by first | omega | exact outA o0 (by decide))).trans F
  refine em_f (c := (v4.1 : Int32) = 0) (fun q6 => ?_) (fun q6 => ?_)
  · replace h := ite_f h q6
    obtain ⟨v7, e8, h⟩ := bnd_e h
    replace F := (fr_Pol_append e8 (by first | omega | exact outA o0 (by decide))).trans F
    refine em_f (c := x1 = (37 : Int32)) (fun q9 => ?_) (fun q9 => ?_)
    · replace h := ite_f h q9
      refine em_f (c := x1 = (40 : Int32)) (fun q10 => ?_) (fun q10 => ?_)
      · replace h := ite_f h q10
        exact (fb_Prd_readCall_75 fE fT0 o0 o1 o2  h).trans F
      · replace h := ite_t h q10
        obtain ⟨I11, hI11, h⟩ := lt_x h
        replace F := (show I11 b = _ from by first | exact fr_up hI11 (by first | omega | (intro e; subst e; revert o0; decide)) | exact fr_fil hI11 (by omega) | exact fr_cpy hI11 (by omega)).trans F
        exact (fb_Prd_readCall_75 fE fT0 o0 o1 o2  h).trans F
    · replace h := ite_t h q9
      obtain ⟨I12, hI12, h⟩ := lt_x h
      replace F := (show I12 b = _ from by first | exact fr_up hI12 (by first | omega | (intro e; subst e; revert o0; decide)) | exact fr_fil hI12 (by omega) | exact fr_cpy hI12 (by omega)).trans F
      exact (fb_Prd_readCall_75 fE fT0 o0 o1 o2  h).trans F
  · replace h := ite_t h q6
    cases h
    exact F
set_option maxRecDepth 20000 in
set_option maxHeartbeats 4000000 in
theorem fb_Prd_readTerm_29 {pt : Nat} {E T : RF} {b : Nat} {r : Int32 × IM} (fE : ∀ x I r, E x I = some r → r.2 b = I b) (fT0 : ∀ x I r, T x I = some r → r.2 b = I b) (o0 : b < 7 ∨ 7 + 1 ≤ b) (o1 : b < 1 ∨ 1 + 6 ≤ b) (o2 : b < pt ∨ pt + 7 ≤ b)  {x1 : Int32} {x2 : Int32} {I : IM} (h : b_Prd_readTerm_29 pt E T  x1 x2 I = some r) : r.2 b = I b := by
  unfold b_Prd_readTerm_29 at h
  have F : I b = I b := rfl
  obtain ⟨v23, e24, h⟩ := bnd_e h
  replace F := (fr_Prd_readTurned fE fT0 e24 (by first | omega | exact outA o0 (by decide)) (by first | omega | exact outA o0 (by decide))).trans F
  obtain ⟨c25, h⟩ := chk_e h
  cases h
  exact F
set_option maxRecDepth 20000 in
set_option maxHeartbeats 4000000 in
theorem fb_Prd_readTerm_139 {pt : Nat} {E T : RF} {b : Nat} {r : Int32 × IM} (fE : ∀ x I r, E x I = some r → r.2 b = I b) (fT0 : ∀ x I r, T x I = some r → r.2 b = I b) (o0 : b < 7 ∨ 7 + 1 ≤ b) (o1 : b < 1 ∨ 1 + 6 ≤ b) (o2 : b < pt ∨ pt + 7 ≤ b)   {I : IM} (h : b_Prd_readTerm_139 pt E T   I = some r) : r.2 b = I b := by
  unfold b_Prd_readTerm_139 at h
  have F : I b = I b := rfl
  cases h
  exact F
set_option maxRecDepth 20000 in
set_option maxHeartbeats 4000000 in
theorem fb_Prd_readTerm_141 {pt : Nat} {E T : RF} {b : Nat} {r : Int32 × IM} (fE : ∀ x I r, E x I = some r → r.2 b = I b) (fT0 : ∀ x I r, T x I = some r → r.2 b = I b) (o0 : b < 7 ∨ 7 + 1 ≤ b) (o1 : b < 1 ∨ 1 + 6 ≤ b) (o2 : b < pt ∨ pt + 7 ≤ b)   {I : IM} (h : b_Prd_readTerm_141 pt E T   I = some r) : r.2 b = I b := by
  unfold b_Prd_readTerm_141 at h
  have F : I b = I b := rfl
  obtain ⟨v21, e22, h⟩ := bnd_e h
  replace F := (fr_Rdr_advance e22 (by first | omega | exact outA o0 (by decide))).trans F
  cases h
  exact F
set_option maxRecDepth 20000 in
set_option maxHeartbeats 4000000 in
theorem fb_Prd_readTerm_69 {pt : Nat} {E T : RF} {b : Nat} {r : Int32 × IM} (fE : ∀ x I r, E x I = some r → r.2 b = I b) (fT0 : ∀ x I r, T x I = some r → r.2 b = I b) (o0 : b < 7 ∨ 7 + 1 ≤ b) (o1 : b < 1 ∨ 1 + 6 ≤ b) (o2 : b < pt ∨ pt + 7 ≤ b)  {x2 : Int32} {I : IM} (h : b_Prd_readTerm_69 pt E T  x2 I = some r) : r.2 b = I b := by
  unfold b_Prd_readTerm_69 at h
  have F : I b = I b := rfl
  refine em_f (c := x2 = (101 : Int32)) (fun q13 => ?_) (fun q13 => ?_)
  · replace h := ite_f h q13
    refine em_t (c := x2 < (22 : Int32)) (fun q14 => ?_) (fun q14 => ?_)
    · replace h := ite_t h q14
      exact (fb_Prd_readTerm_139 fE fT0 o0 o1 o2  h).trans F
    · replace h := ite_f h q14
      refine em_t (c := (37 : Int32) ≤ x2) (fun q15 => ?_) (fun q15 => ?_)
      · replace h := ite_t h q15
        exact (fb_Prd_readTerm_139 fE fT0 o0 o1 o2  h).trans F
      · replace h := ite_f h q15
        obtain ⟨v16, e17, h⟩ := bnd_e h
        replace F := (fr_Pol_append e17 (by first | omega | exact outA o0 (by decide))).trans F
        obtain ⟨I18, hI18, h⟩ := lt_x h
        replace F := (show I18 b = _ from by first | exact fr_up hI18 (by first | omega | (intro e; subst e; revert o0; decide)) | exact fr_fil hI18 (by omega) | exact fr_cpy hI18 (by omega)).trans F
        exact (fb_Prd_readTerm_141 fE fT0 o0 o1 o2  h).trans F
  · replace h := ite_t h q13
    obtain ⟨v19, e20, h⟩ := bnd_e h
    replace F := (fr_Pol_append e20 (by first | omega | exact outA o0 (by decide))).trans F
    exact (fb_Prd_readTerm_141 fE fT0 o0 o1 o2  h).trans F
set_option maxRecDepth 20000 in
set_option maxHeartbeats 4000000 in
theorem fr_Prd_readTerm {pt : Nat} {E T : RF} {x1 : Int32} {I : IM} {b : Nat} {r : Int32 × IM} (fE : ∀ x I r, E x I = some r → r.2 b = I b) (fT0 : ∀ x I r, T x I = some r → r.2 b = I b)  (h : f_Prd_readTerm pt E T x1 I = some r) (o0 : b < 7 ∨ 7 + 1 ≤ b) (o1 : b < 1 ∨ 1 + 6 ≤ b) (o2 : b < pt ∨ pt + 7 ≤ b) : r.2 b = I b := by
  unfold f_Prd_readTerm at h
  have F : I b = I b := rfl
  refine em_t (c := (I 1 1 : Int32) = (161 : Int32)) (fun q1 => ?_) (fun q1 => ?_)
  · replace h := ite_t h q1
    exact (fb_Prd_readTerm_29 fE fT0 o0 o1 o2  h).trans F
  · replace h := ite_f h q1
    refine em_t (c := (I 1 1 : Int32) = (254 : Int32)) (fun q2 => ?_) (fun q2 => ?_)
    · replace h := ite_t h q2
      exact (fb_Prd_readTerm_29 fE fT0 o0 o1 o2  h).trans F
    · replace h := ite_f h q2
      refine em_f (c := (I 1 1 : Int32) = (173 : Int32)) (fun q3 => ?_) (fun q3 => ?_)
      · replace h := ite_f h q3
        refine em_f (c := (I 1 1 : Int32) = (168 : Int32)) (fun q4 => ?_) (fun q4 => ?_)
        · replace h := ite_f h q4
          refine em_t (c := (I 1 1 : Int32) < (37 : Int32)) (fun q5 => ?_) (fun q5 => ?_)
          · replace h := ite_t h q5
            exact (fb_Prd_readTerm_69 fE fT0 o0 o1 o2  h).trans F
          · replace h := ite_f h q5
            refine em_t (c := (40 : Int32) < (I 1 1 : Int32)) (fun q6 => ?_) (fun q6 => ?_)
            · replace h := ite_t h q6
              exact (fb_Prd_readTerm_69 fE fT0 o0 o1 o2  h).trans F
            · replace h := ite_f h q6
              obtain ⟨v7, e8, h⟩ := bnd_e h
              replace F := (fr_Prd_readCall fE fT0 e8 (by first | omega | exact outA o0 (by decide)) (by first | omega | exact outA o0 (by decide)) (by first | omega | exact outA o0 (by decide))).trans F
              obtain ⟨c9, h⟩ := chk_e h
              cases h
              exact F
        · replace h := ite_t h q4
          obtain ⟨v10, e11, h⟩ := bnd_e h
          replace F := (fr_Prd_readBracket fE fT0 e11 (by first | omega | exact outA o0 (by decide))).trans F
          obtain ⟨c12, h⟩ := chk_e h
          cases h
          exact F
      · replace h := ite_t h q3
        exact (fb_Prd_readTerm_29 fE fT0 o0 o1 o2  h).trans F
set_option maxRecDepth 20000 in
set_option maxHeartbeats 4000000 in
theorem fb_Prd_readSum_73 {n : Nat} {pt : Nat} {E T : RF} {b : Nat} {r : Int32 × IM} (fE : ∀ x I r, E x I = some r → r.2 b = I b) (fT0 : ∀ x I r, T x I = some r → r.2 b = I b) (o0 : b < 7 ∨ 7 + 1 ≤ b) (o1 : b < 1 ∨ 1 + 6 ≤ b) (o2 : b < pt ∨ pt + 7 ≤ b)   {I : IM} (h : b_Prd_readSum_73 n pt E T   I = some r) : r.2 b = I b := by
  unfold b_Prd_readSum_73 at h
  have F : I b = I b := rfl
  cases h
  exact F
set_option maxRecDepth 20000 in
set_option maxHeartbeats 4000000 in
theorem fl_Prd_readSum_12 {n : Nat} {pt : Nat} {E T : RF} {b : Nat} {r : Int32 × IM} (fE : ∀ x I r, E x I = some r → r.2 b = I b) (fT0 : ∀ x I r, T x I = some r → r.2 b = I b) (o0 : b < 7 ∨ 7 + 1 ≤ b) (o1 : b < 1 ∨ 1 + 6 ≤ b) (o2 : b < pt ∨ pt + 7 ≤ b)  : ∀ (f : Nat) (x1 : Int32) (x2 : Int32) (I : IM), l_Prd_readSum_12 n pt E T  f x1 x2 I = some r → r.2 b = I b
  | 0, _, _, _, h => by cases h
  | f + 1, x1, x2, I, h => by
    have ih := fl_Prd_readSum_12 (b := b) (r := r) (n := n) (pt := pt)  fE fT0 o0 o1 o2 f
    rw [l_Prd_readSum_12] at h
    have F : I b = I b := rfl
    refine em_t (c := (900 : Int32) ≤ x2) (fun q4 => ?_) (fun q4 => ?_)
    · replace h := ite_t h q4
      exact (fb_Prd_readSum_73 fE fT0 o0 o1 o2  h).trans F
    · replace h := ite_f h q4
      obtain ⟨v5, e6, h⟩ := bnd_e h
      refine em_t (c := v5 = 0) (fun q7 => ?_) (fun q7 => ?_)
      · replace h := ite_t h q7
        exact (fb_Prd_readSum_73 fE fT0 o0 o1 o2  h).trans F
      · replace h := ite_f h q7
        obtain ⟨v8, e9, h⟩ := bnd_e h
        replace F := (fr_Rdr_advance e9 (by first | omega | exact outA o0 (by decide))).trans F
        obtain ⟨v10, e11, h⟩ := bnd_e h
        replace F := (fr_Prd_readTerm fE fT0 e11 (by first | omega | exact outA o0 (by decide)) (by first | omega | exact outA o0 (by decide)) (by first | omega | exact outA o0 (by decide))).trans F
        refine em_f (c := (v10.1 : Int32) = 0) (fun q12 => ?_) (fun q12 => ?_)
        · replace h := ite_f h q12
          obtain ⟨v13, e14, h⟩ := bnd_e h
          replace F := (fr_Pol_append e14 (by first | omega | exact outA o0 (by decide))).trans F
          exact (ih _ _ _ h).trans F
        · replace h := ite_t h q12
          cases h
          exact F
set_option maxRecDepth 20000 in
set_option maxHeartbeats 4000000 in
theorem fr_Prd_readSum {n : Nat} {pt : Nat} {E T : RF} {x1 : Int32} {I : IM} {b : Nat} {r : Int32 × IM} (fE : ∀ x I r, E x I = some r → r.2 b = I b) (fT0 : ∀ x I r, T x I = some r → r.2 b = I b)  (h : f_Prd_readSum n pt E T x1 I = some r) (o0 : b < 7 ∨ 7 + 1 ≤ b) (o1 : b < 1 ∨ 1 + 6 ≤ b) (o2 : b < pt ∨ pt + 7 ≤ b) : r.2 b = I b := by
  unfold f_Prd_readSum at h
  have F : I b = I b := rfl
  obtain ⟨v1, e2, h⟩ := bnd_e h
  replace F := (fr_Prd_readTerm fE fT0 e2 (by first | omega | exact outA o0 (by decide)) (by first | omega | exact outA o0 (by decide)) (by first | omega | exact outA o0 (by decide))).trans F
  refine em_f (c := (v1.1 : Int32) = 0) (fun q3 => ?_) (fun q3 => ?_)
  · replace h := ite_f h q3
    exact (fl_Prd_readSum_12 fE fT0 o0 o1 o2  _ _ _ _ h).trans F
  · replace h := ite_t h q3
    cases h
    exact F
set_option maxRecDepth 20000 in
set_option maxHeartbeats 4000000 in
theorem fb_Prd_readParts_48 {n : Nat} {pt : Nat} {E T : RF} {b : Nat} {r : Int32 × IM} (fE : ∀ x I r, E x I = some r → r.2 b = I b) (fT0 : ∀ x I r, T x I = some r → r.2 b = I b) (o0 : b < 7 ∨ 7 + 1 ≤ b) (o1 : b < 1 ∨ 1 + 6 ≤ b) (o2 : b < pt ∨ pt + 7 ≤ b)  {x1 : Int32} {x2 : Int32} {I : IM} (h : b_Prd_readParts_48 n pt E T  x1 x2 I = some r) : r.2 b = I b := by
  unfold b_Prd_readParts_48 at h
  have F : I b = I b := rfl
  obtain ⟨v8, e9, h⟩ := bnd_e h
  replace F := (fr_Rdr_advance e9 (by first | omega | exact outA o0 (by decide))).trans F
  obtain ⟨v10, e11, h⟩ := bnd_e h
  replace F := (fr_Prd_readSum fE fT0 e11 (by first | omega | exact outA o0 (by decide)) (by first | omega | exact outA o0 (by decide)) (by first | omega | exact outA o0 (by decide))).trans F
  refine em_f (c := (v10.1 : Int32) = 0) (fun q12 => ?_) (fun q12 => ?_)
  · replace h := ite_f h q12
    obtain ⟨v13, e14, h⟩ := bnd_e h
    replace F := (fr_Pol_append e14 (by first | omega | exact outA o0 (by decide))).trans F
    cases h
    exact F
  · replace h := ite_t h q12
    cases h
    exact F
set_option maxRecDepth 20000 in
set_option maxHeartbeats 4000000 in
theorem fr_Prd_readParts {n : Nat} {pt : Nat} {E T : RF} {x1 : Int32} {I : IM} {b : Nat} {r : Int32 × IM} (fE : ∀ x I r, E x I = some r → r.2 b = I b) (fT0 : ∀ x I r, T x I = some r → r.2 b = I b)  (h : f_Prd_readParts n pt E T x1 I = some r) (o0 : b < 7 ∨ 7 + 1 ≤ b) (o1 : b < 1 ∨ 1 + 6 ≤ b) (o2 : b < pt ∨ pt + 7 ≤ b) : r.2 b = I b := by
  unfold f_Prd_readParts at h
  have F : I b = I b := rfl
  obtain ⟨v1, e2, h⟩ := bnd_e h
  replace F := (fr_Prd_readSum fE fT0 e2 (by first | omega | exact outA o0 (by decide)) (by first | omega | exact outA o0 (by decide)) (by first | omega | exact outA o0 (by decide))).trans F
  refine em_f (c := (v1.1 : Int32) = 0) (fun q3 => ?_) (fun q3 => ?_)
  · replace h := ite_f h q3
    refine em_t (c := (v1.2 1 1 : Int32) = (317 : Int32)) (fun q4 => ?_) (fun q4 => ?_)
    · replace h := ite_t h q4
      exact (fb_Prd_readParts_48 fE fT0 o0 o1 o2  h).trans F
    · replace h := ite_f h q4
      refine em_t (c := (v1.2 1 1 : Int32) = (289 : Int32)) (fun q5 => ?_) (fun q5 => ?_)
      · replace h := ite_t h q5
        exact (fb_Prd_readParts_48 fE fT0 o0 o1 o2  h).trans F
      · replace h := ite_f h q5
        refine em_t (c := (v1.2 1 1 : Int32) = (188 : Int32)) (fun q6 => ?_) (fun q6 => ?_)
        · replace h := ite_t h q6
          exact (fb_Prd_readParts_48 fE fT0 o0 o1 o2  h).trans F
        · replace h := ite_f h q6
          refine em_t (c := (v1.2 1 1 : Int32) = (316 : Int32)) (fun q7 => ?_) (fun q7 => ?_)
          · replace h := ite_t h q7
            exact (fb_Prd_readParts_48 fE fT0 o0 o1 o2  h).trans F
          · replace h := ite_f h q7
            cases h
            exact F
  · replace h := ite_t h q3
    cases h
    exact F
set_option maxRecDepth 20000 in
set_option maxHeartbeats 4000000 in
theorem fb_Prd_readExpression_75 {n : Nat} {pt : Nat} {E T : RF} {b : Nat} {r : Int32 × IM} (fE : ∀ x I r, E x I = some r → r.2 b = I b) (fT0 : ∀ x I r, T x I = some r → r.2 b = I b) (o0 : b < 7 ∨ 7 + 1 ≤ b) (o1 : b < 1 ∨ 1 + 6 ≤ b) (o2 : b < pt ∨ pt + 7 ≤ b)   {I : IM} (h : b_Prd_readExpression_75 n pt E T   I = some r) : r.2 b = I b := by
  unfold b_Prd_readExpression_75 at h
  have F : I b = I b := rfl
  cases h
  exact F
set_option maxRecDepth 20000 in
set_option maxHeartbeats 4000000 in
theorem fr_Prd_readExpression {n : Nat} {pt : Nat} {E T : RF} {x1 : Int32} {I : IM} {b : Nat} {r : Int32 × IM} (fE : ∀ x I r, E x I = some r → r.2 b = I b) (fT0 : ∀ x I r, T x I = some r → r.2 b = I b)  (h : f_Prd_readExpression n pt E T x1 I = some r) (o0 : b < 7 ∨ 7 + 1 ≤ b) (o1 : b < 1 ∨ 1 + 6 ≤ b) (o2 : b < pt ∨ pt + 7 ≤ b) : r.2 b = I b := by
  unfold f_Prd_readExpression at h
  have F : I b = I b := rfl
  obtain ⟨v1, e2, h⟩ := bnd_e h
  replace F := (fr_Prd_readParts fE fT0 e2 (by first | omega | exact outA o0 (by decide)) (by first | omega | exact outA o0 (by decide)) (by first | omega | exact outA o0 (by decide))).trans F
  refine em_f (c := (v1.1 : Int32) = 0) (fun q3 => ?_) (fun q3 => ?_)
  · replace h := ite_f h q3
    refine em_t (c := (v1.2 1 1 : Int32) = (191 : Int32)) (fun q4 => ?_) (fun q4 => ?_)
    · replace h := ite_t h q4
      refine em_t (c := x1 < (10 : Int32)) (fun q5 => ?_) (fun q5 => ?_)
      · replace h := ite_t h q5
        obtain ⟨v6, e7, h⟩ := bnd_e h
        replace F := (fr_Rdr_advance e7 (by first | omega | exact outA o0 (by decide))).trans F
        obtain ⟨v8, e9, h⟩ := bnd_e h
        replace F := (fr_Pol_append e9 (by first | omega | exact outA o0 (by decide))).trans F
        obtain ⟨v10, e11, h⟩ := bnd_e h
        replace F := (fE _ _ _ e11).trans F
        refine em_t (c := (v10.1 : Int32) = 0) (fun q12 => ?_) (fun q12 => ?_)
        · replace h := ite_t h q12
          exact (fb_Prd_readExpression_75 fE fT0 o0 o1 o2  h).trans F
        · replace h := ite_f h q12
          obtain ⟨v13, e14, h⟩ := bnd_e h
          replace F := (fr_Rdr_take e14 (by first | omega | exact outA o0 (by decide))).trans F
          refine em_f (c := (v13.1 : Int32) = 0) (fun q15 => ?_) (fun q15 => ?_)
          · replace h := ite_f h q15
            obtain ⟨v16, e17, h⟩ := bnd_e h
            replace F := (fr_Pol_append e17 (by first | omega | exact outA o0 (by decide))).trans F
            obtain ⟨v18, e19, h⟩ := bnd_e h
            replace F := (fr_Pol_landHere e19 (by first | omega | exact outA o0 (by decide))).trans F
            obtain ⟨v20, e21, h⟩ := bnd_e h
            replace F := (fE _ _ _ e21).trans F
            refine em_f (c := (v20.1 : Int32) = 0) (fun q22 => ?_) (fun q22 => ?_)
            · replace h := ite_f h q22
              obtain ⟨v23, e24, h⟩ := bnd_e h
              replace F := (fr_Pol_landHere e24 (by first | omega | exact outA o0 (by decide))).trans F
              cases h
              exact F
            · replace h := ite_t h q22
              cases h
              exact F
          · replace h := ite_t h q15
            exact (fb_Prd_readExpression_75 fE fT0 o0 o1 o2  h).trans F
      · replace h := ite_f h q5
        cases h
        exact F
    · replace h := ite_f h q4
      cases h
      exact F
  · replace h := ite_t h q3
    cases h
    exact F
theorem fr_recP {n pt b : Nat} (o0 : b < 1 ∨ 1 + 6 ≤ b) (o1 : b < pt ∨ pt + 7 ≤ b) (o2 : b < 7 ∨ 7 + 1 ≤ b) : ∀ d : Nat, (∀ x I r, (recP n pt d).1 x I = some r → r.2 b = I b) ∧ ∀ x I r, (recP n pt d).2 x I = some r → r.2 b = I b
  | 0 => ⟨(fun _ _ _ h => by cases h), (fun _ _ _ h => by cases h)⟩
  | d + 1 => by
    obtain ⟨f1, f2⟩ := fr_recP o0 o1 o2 d
    exact ⟨fun x I r h => fr_Prd_readExpression f1 f2 h o2 o0 o1, fun x I r h => fr_Prd_readTerm f1 f2 h o2 o0 o1⟩
theorem fr_Prd_rdE {n pt : Nat} {x1 : Int32} {I : IM} {b : Nat} {r : Int32 × IM} (h : f_Prd_rdE n pt x1 I = some r) (o0 : b < 1 ∨ 1 + 6 ≤ b) (o1 : b < pt ∨ pt + 7 ≤ b) (o2 : b < 7 ∨ 7 + 1 ≤ b) : r.2 b = I b := (fr_recP o0 o1 o2 11).1 x1 I r h
set_option maxRecDepth 20000 in
set_option maxHeartbeats 4000000 in
theorem fb_Prd_readStatement_28 {n : Nat} {pt : Nat} {b : Nat} {r : Int32 × IM} (o0 : b < 7 ∨ 7 + 1 ≤ b) (o1 : b < 1 ∨ 1 + 6 ≤ b) (o2 : b < pt ∨ pt + 7 ≤ b)   {I : IM} (h : b_Prd_readStatement_28 n pt   I = some r) : r.2 b = I b := by
  unfold b_Prd_readStatement_28 at h
  have F : I b = I b := rfl
  cases h
  exact F
set_option maxRecDepth 20000 in
set_option maxHeartbeats 4000000 in
theorem fb_Prd_readStatement_92 {n : Nat} {pt : Nat} {b : Nat} {r : Int32 × IM} (o0 : b < 7 ∨ 7 + 1 ≤ b) (o1 : b < 1 ∨ 1 + 6 ≤ b) (o2 : b < pt ∨ pt + 7 ≤ b)  {x1 : Int32} {x2 : Int32} {I : IM} (h : b_Prd_readStatement_92 n pt  x1 x2 I = some r) : r.2 b = I b := by
  unfold b_Prd_readStatement_92 at h
  have F : I b = I b := rfl
  obtain ⟨v12, e13, h⟩ := bnd_e h
  replace F := (fr_Prd_rdE e13 (by first | omega | exact outA o0 (by decide)) (by first | omega | exact outA o0 (by decide)) (by first | omega | exact outA o0 (by decide))).trans F
  refine em_f (c := (v12.1 : Int32) = 0) (fun q14 => ?_) (fun q14 => ?_)
  · replace h := ite_f h q14
    obtain ⟨v15, e16, h⟩ := bnd_e h
    replace F := (fr_Pol_append e16 (by first | omega | exact outA o0 (by decide))).trans F
    obtain ⟨v17, e18, h⟩ := bnd_e h
    replace F := (fr_Rdr_take e18 (by first | omega | exact outA o0 (by decide))).trans F
    obtain ⟨c19, h⟩ := chk_e h
    cases h
    exact F
  · replace h := ite_t h q14
    cases h
    exact F
set_option maxRecDepth 20000 in
set_option maxHeartbeats 4000000 in
theorem fb_Prd_readStatement_64 {n : Nat} {pt : Nat} {b : Nat} {r : Int32 × IM} (o0 : b < 7 ∨ 7 + 1 ≤ b) (o1 : b < 1 ∨ 1 + 6 ≤ b) (o2 : b < pt ∨ pt + 7 ≤ b)  {x1 : Int32} {x2 : Int32} {I : IM} (h : b_Prd_readStatement_64 n pt  x1 x2 I = some r) : r.2 b = I b := by
  unfold b_Prd_readStatement_64 at h
  have F : I b = I b := rfl
  obtain ⟨v6, e7, h⟩ := bnd_e h
  replace F := (fr_Rdr_advance e7 (by first | omega | exact outA o0 (by decide))).trans F
  refine em_t (c := x1 = (41 : Int32)) (fun q8 => ?_) (fun q8 => ?_)
  · replace h := ite_t h q8
    exact (fb_Prd_readStatement_92 o0 o1 o2  h).trans F
  · replace h := ite_f h q8
    obtain ⟨v9, e10, h⟩ := bnd_e h
    replace F := (fr_Rdr_take e10 (by first | omega | exact outA o0 (by decide))).trans F
    refine em_f (c := (v9.1 : Int32) = 0) (fun q11 => ?_) (fun q11 => ?_)
    · replace h := ite_f h q11
      exact (fb_Prd_readStatement_92 o0 o1 o2  h).trans F
    · replace h := ite_t h q11
      cases h
      exact F
set_option maxRecDepth 20000 in
set_option maxHeartbeats 4000000 in
theorem fr_Prd_readStatement {n : Nat} {pt : Nat} {I : IM} {b : Nat} {r : Int32 × IM}  (h : f_Prd_readStatement n pt I = some r) (o0 : b < 7 ∨ 7 + 1 ≤ b) (o1 : b < 1 ∨ 1 + 6 ≤ b) (o2 : b < pt ∨ pt + 7 ≤ b) : r.2 b = I b := by
  unfold f_Prd_readStatement at h
  have F : I b = I b := rfl
  refine em_t (c := (I 1 1 : Int32) < (41 : Int32)) (fun q1 => ?_) (fun q1 => ?_)
  · replace h := ite_t h q1
    exact (fb_Prd_readStatement_28 o0 o1 o2  h).trans F
  · replace h := ite_f h q1
    refine em_t (c := (I 1 1 : Int32) ≤ (44 : Int32)) (fun q2 => ?_) (fun q2 => ?_)
    · replace h := ite_t h q2
      refine em_t (c := (I 1 1 : Int32) = (41 : Int32)) (fun q3 => ?_) (fun q3 => ?_)
      · replace h := ite_t h q3
        exact (fb_Prd_readStatement_64 o0 o1 o2  h).trans F
      · replace h := ite_f h q3
        refine em_t (c := ((I 7 4) &&& ((1 : Int32) <<< (((I 1 1) - 42 : Int32) &&& 31)) : Int32) = 0) (fun q4 => ?_) (fun q4 => ?_)
        · replace h := ite_t h q4
          obtain ⟨I5, hI5, h⟩ := lt_x h
          replace F := (show I5 b = _ from by first | exact fr_up hI5 (by first | omega | (intro e; subst e; revert o0; decide)) | exact fr_fil hI5 (by omega) | exact fr_cpy hI5 (by omega)).trans F
          exact (fb_Prd_readStatement_64 o0 o1 o2  h).trans F
        · replace h := ite_f h q4
          cases h
          exact F
    · replace h := ite_f h q2
      exact (fb_Prd_readStatement_28 o0 o1 o2  h).trans F
set_option maxRecDepth 20000 in
set_option maxHeartbeats 4000000 in
theorem fb_Prd_readRule_25 {n : Nat} {pt : Nat} {b : Nat} {r : Int32 × IM} (o0 : b < 7 ∨ 7 + 1 ≤ b) (o1 : b < 1 ∨ 1 + 6 ≤ b) (o2 : b < pt ∨ pt + 7 ≤ b)   {I : IM} (h : b_Prd_readRule_25 n pt   I = some r) : r.2 b = I b := by
  unfold b_Prd_readRule_25 at h
  have F : I b = I b := rfl
  cases h
  exact F
set_option maxRecDepth 20000 in
set_option maxHeartbeats 4000000 in
theorem fb_Prd_readRule_93 {n : Nat} {pt : Nat} {b : Nat} {r : Int32 × IM} (o0 : b < 7 ∨ 7 + 1 ≤ b) (o1 : b < 1 ∨ 1 + 6 ≤ b) (o2 : b < pt ∨ pt + 7 ≤ b)  {x1 : Int32} {x2 : Int32} {I : IM} (h : b_Prd_readRule_93 n pt  x1 x2 I = some r) : r.2 b = I b := by
  unfold b_Prd_readRule_93 at h
  have F : I b = I b := rfl
  obtain ⟨v15, e16, h⟩ := bnd_e h
  replace F := (fr_Pol_addRule e16 (by first | omega | exact outA o0 (by decide))).trans F
  cases h
  exact F
set_option maxRecDepth 20000 in
set_option maxHeartbeats 4000000 in
theorem fl_Prd_readRule_47 {n : Nat} {pt : Nat} {b : Nat} {r : Int32 × IM} (o0 : b < 7 ∨ 7 + 1 ≤ b) (o1 : b < 1 ∨ 1 + 6 ≤ b) (o2 : b < pt ∨ pt + 7 ≤ b)  : ∀ (f : Nat) (x1 : Int32) (x2 : Int32) (x3 : Int32) (I : IM), l_Prd_readRule_47 n pt  f x1 x2 x3 I = some r → r.2 b = I b
  | 0, _, _, _, _, h => by cases h
  | f + 1, x1, x2, x3, I, h => by
    have ih := fl_Prd_readRule_47 (b := b) (r := r) (n := n) (pt := pt)  o0 o1 o2 f
    rw [l_Prd_readRule_47] at h
    have F : I b = I b := rfl
    refine em_t (c := (900 : Int32) ≤ x3) (fun q9 => ?_) (fun q9 => ?_)
    · replace h := ite_t h q9
      exact (fb_Prd_readRule_93 o0 o1 o2  h).trans F
    · replace h := ite_f h q9
      refine em_t (c := (I 1 1 : Int32) < (22 : Int32)) (fun q10 => ?_) (fun q10 => ?_)
      · replace h := ite_t h q10
        exact (fb_Prd_readRule_93 o0 o1 o2  h).trans F
      · replace h := ite_f h q10
        refine em_t (c := (I 1 1 : Int32) = (100 : Int32)) (fun q11 => ?_) (fun q11 => ?_)
        · replace h := ite_t h q11
          exact (fb_Prd_readRule_93 o0 o1 o2  h).trans F
        · replace h := ite_f h q11
          obtain ⟨v12, e13, h⟩ := bnd_e h
          replace F := (fr_Prd_readStatement e13 (by first | omega | exact outA o0 (by decide)) (by first | omega | exact outA o0 (by decide)) (by first | omega | exact outA o0 (by decide))).trans F
          refine em_f (c := (v12.1 : Int32) = 0) (fun q14 => ?_) (fun q14 => ?_)
          · replace h := ite_f h q14
            exact (ih _ _ _ _ h).trans F
          · replace h := ite_t h q14
            cases h
            exact F
set_option maxRecDepth 20000 in
set_option maxHeartbeats 4000000 in
theorem fr_Prd_readRule {n : Nat} {pt : Nat} {I : IM} {b : Nat} {r : Int32 × IM}  (h : f_Prd_readRule n pt I = some r) (o0 : b < 7 ∨ 7 + 1 ≤ b) (o1 : b < 1 ∨ 1 + 6 ≤ b) (o2 : b < pt ∨ pt + 7 ≤ b) : r.2 b = I b := by
  unfold f_Prd_readRule at h
  have F : I b = I b := rfl
  obtain ⟨v1, e2, h⟩ := bnd_e h
  replace F := (fr_Prd_readKinds e2 (by first | omega | exact outA o0 (by decide)) (by first | omega | exact outA o0 (by decide))).trans F
  refine em_t (c := (v1.1 : Int32) = 0) (fun q3 => ?_) (fun q3 => ?_)
  · replace h := ite_t h q3
    exact (fb_Prd_readRule_25 o0 o1 o2  h).trans F
  · replace h := ite_f h q3
    obtain ⟨v4, e5, h⟩ := bnd_e h
    replace F := (fr_Rdr_take e5 (by first | omega | exact outA o0 (by decide))).trans F
    refine em_f (c := (v4.1 : Int32) = 0) (fun q6 => ?_) (fun q6 => ?_)
    · replace h := ite_f h q6
      obtain ⟨I7, hI7, h⟩ := lt_x h
      replace F := (show I7 b = _ from by first | exact fr_up hI7 (by first | omega | (intro e; subst e; revert o0; decide)) | exact fr_fil hI7 (by omega) | exact fr_cpy hI7 (by omega)).trans F
      obtain ⟨I8, hI8, h⟩ := lt_x h
      replace F := (show I8 b = _ from by first | exact fr_up hI8 (by first | omega | (intro e; subst e; revert o0; decide)) | exact fr_fil hI8 (by omega) | exact fr_cpy hI8 (by omega)).trans F
      exact (fl_Prd_readRule_47 o0 o1 o2  _ _ _ _ _ h).trans F
    · replace h := ite_t h q6
      exact (fb_Prd_readRule_25 o0 o1 o2  h).trans F
set_option maxRecDepth 20000 in
set_option maxHeartbeats 4000000 in
theorem fb_Prd_read_83 {n : Nat} {pt : Nat} {J : JM} {b : Nat} {r : Int32 × IM} (o0 : b < 7 ∨ 7 + 1 ≤ b) (o1 : b < pt ∨ pt + 7 ≤ b) (o2 : b < 1 ∨ 1 + 6 ≤ b)  {y0 : Int32} {I : IM} (h : b_Prd_read_83 n pt J  y0 I = some r) : r.2 b = I b := by
  unfold b_Prd_read_83 at h
  have F : I b = I b := rfl
  cases h
  exact F
set_option maxRecDepth 20000 in
set_option maxHeartbeats 4000000 in
theorem fb_Prd_read_60 {n : Nat} {pt : Nat} {J : JM} {b : Nat} {r : Int32 × IM} (o0 : b < 7 ∨ 7 + 1 ≤ b) (o1 : b < pt ∨ pt + 7 ≤ b) (o2 : b < 1 ∨ 1 + 6 ≤ b)   {I : IM} (h : b_Prd_read_60 n pt J   I = some r) : r.2 b = I b := by
  unfold b_Prd_read_60 at h
  have F : I b = I b := rfl
  refine em_f (c := (I 1 1 : Int32) = (100 : Int32)) (fun q11 => ?_) (fun q11 => ?_)
  · replace h := ite_f h q11
    exact (fb_Prd_read_83 o0 o1 o2  h).trans F
  · replace h := ite_t h q11
    exact (fb_Prd_read_83 o0 o1 o2  h).trans F
set_option maxRecDepth 20000 in
set_option maxHeartbeats 4000000 in
theorem fl_Prd_read_21 {n : Nat} {pt : Nat} {J : JM} {b : Nat} {r : Int32 × IM} (o0 : b < 7 ∨ 7 + 1 ≤ b) (o1 : b < pt ∨ pt + 7 ≤ b) (o2 : b < 1 ∨ 1 + 6 ≤ b)  : ∀ (f : Nat) (x1 : Int32) (I : IM), l_Prd_read_21 n pt J  f x1 I = some r → r.2 b = I b
  | 0, _, _, h => by cases h
  | f + 1, x1, I, h => by
    have ih := fl_Prd_read_21 (b := b) (r := r) (n := n) (pt := pt) (J := J) o0 o1 o2 f
    rw [l_Prd_read_21] at h
    have F : I b = I b := rfl
    refine em_t (c := (22 : Int32) < x1) (fun q6 => ?_) (fun q6 => ?_)
    · replace h := ite_t h q6
      exact (fb_Prd_read_60 o0 o1 o2  h).trans F
    · replace h := ite_f h q6
      refine em_t (c := (I 1 1 : Int32) = (100 : Int32)) (fun q7 => ?_) (fun q7 => ?_)
      · replace h := ite_t h q7
        exact (fb_Prd_read_60 o0 o1 o2  h).trans F
      · replace h := ite_f h q7
        obtain ⟨v8, e9, h⟩ := bnd_e h
        replace F := (fr_Prd_readRule e9 (by first | omega | exact outA o0 (by decide)) (by first | omega | exact outA o0 (by decide)) (by first | omega | exact outA o0 (by decide))).trans F
        refine em_f (c := (v8.1 : Int32) = 0) (fun q10 => ?_) (fun q10 => ?_)
        · replace h := ite_f h q10
          exact (ih _ _ h).trans F
        · replace h := ite_t h q10
          cases h
          exact F
set_option maxRecDepth 20000 in
set_option maxHeartbeats 4000000 in
theorem fr_Prd_read {n : Nat} {pt : Nat} {J : JM} {I : IM} {b : Nat} {r : Int32 × IM}  (h : f_Prd_read n pt J I = some r) (o0 : b < 7 ∨ 7 + 1 ≤ b) (o1 : b < pt ∨ pt + 7 ≤ b) (o2 : b < 1 ∨ 1 + 6 ≤ b) : r.2 b = I b := by
  unfold f_Prd_read at h
  have F : I b = I b := rfl
  obtain ⟨v1, e2, h⟩ := bnd_e h
  replace F := (fr_Pol_empty e2 (by first | omega | exact outA o0 (by decide))).trans F
  obtain ⟨I3, hI3, h⟩ := lt_x h
  replace F := (show I3 b = _ from by first | exact fr_up hI3 (by first | omega | (intro e; subst e; revert o0; decide)) | exact fr_fil hI3 (by omega) | exact fr_cpy hI3 (by omega)).trans F
  obtain ⟨v4, e5, h⟩ := bnd_e h
  replace F := (fr_Rdr_startOver e5 (by first | omega | exact outA o0 (by decide))).trans F
  exact (fl_Prd_read_21 o0 o1 o2  _ _ _ h).trans F
