/-! frames: what the functions leave as it was -/
theorem em_t {c P : Prop} (a : c → P) (b : ¬ c → P) : P := (Classical.em c).elim a b
theorem em_f {c P : Prop} (a : ¬ c → P) (b : c → P) : P := (Classical.em c).elim b a
theorem outA {b a : Nat} (h : b < 102 ∨ 102 + 39 ≤ b) (ha : 102 ≤ a ∧ a < 141) : b < a ∨ a + 1 ≤ b := by omega
theorem lt_x {α β : Type} {x : α} {f : α → Option β} {r : β} (h : lt x f = some r) : ∃ y, y = x ∧ f y = some r := ⟨x, rfl, h⟩
theorem fr_up {I I' : IM} {a k b : Nat} {v : Int32} (h : I' = up I a k v) (hb : b ≠ a) : I' b = I b := by
  rw [h]
  show upA I a _ b = _
  unfold upA
  rw [if_neg hb]
theorem fr_fil {I I' : IM} {a N b : Nat} {v : Int32} (h : I' = fil I a N v) (hb : b ≠ a) : I' b = I b := by
  rw [h]
  show upA I a _ b = _
  unfold upA
  rw [if_neg hb]
theorem fr_cpy {I I' : IM} {a c p q m b : Nat} (h : I' = cpy I a c p q m) (hb : b ≠ c) : I' b = I b := by
  rw [h]
  show upA I c _ b = _
  unfold upA
  rw [if_neg hb]
set_option maxRecDepth 20000 in
set_option maxHeartbeats 4000000 in
theorem fr_Mod_refuse {x1 : Int32} {x2 : Int32} {I : IM} {b : Nat} {r : Int32 × IM}  (h : f_Mod_refuse x1 x2 I = some r) (o0 : b < 102 ∨ 102 + 39 ≤ b) : r.2 b = I b := by
  unfold f_Mod_refuse at h
  have F : I b = I b := rfl
  obtain ⟨I3, hI3, h⟩ := lt_x h
  replace F := (show I3 b = _ from by first | exact fr_up hI3 (by first | omega | (intro e; subst e; revert o0; decide)) | exact fr_fil hI3 (by omega) | exact fr_cpy hI3 (by omega)).trans F
  cases h
  exact F
set_option maxRecDepth 20000 in
set_option maxHeartbeats 4000000 in
theorem fb_Mod_put_59 {n : Nat} {b : Nat} {r : Int32 × IM} (o0 : b < 102 ∨ 102 + 39 ≤ b) {H7 : Int32 → Int32 → Int32 → Int32 → IM → Option (Int32 × IM)} (hH7 : ∀ (x1 : Int32) (x2 : Int32) (x3 : Int32) (x4 : Int32) (I : IM), H7 x1 x2 x3 x4 I = some r → r.2 b = I b) {x1 : Int32} {x2 : Int32} {x4 : Int32} {x5 : Int32} {y0 : Int32} {I : IM} (h : b_Mod_put_59 n H7 x1 x2 x4 x5 y0 I = some r) : r.2 b = I b := by
  unfold b_Mod_put_59 at h
  have F : I b = I b := rfl
  exact (hH7 _ _ _ _ _ h).trans F
set_option maxRecDepth 20000 in
set_option maxHeartbeats 4000000 in
theorem fb_Mod_put_54 {n : Nat} {b : Nat} {r : Int32 × IM} (o0 : b < 102 ∨ 102 + 39 ≤ b) {H7 : Int32 → Int32 → Int32 → Int32 → IM → Option (Int32 × IM)} (hH7 : ∀ (x1 : Int32) (x2 : Int32) (x3 : Int32) (x4 : Int32) (I : IM), H7 x1 x2 x3 x4 I = some r → r.2 b = I b) {x1 : Int32} {x2 : Int32} {x4 : Int32} {x5 : Int32} {I : IM} (h : b_Mod_put_54 n H7 x1 x2 x4 x5 I = some r) : r.2 b = I b := by
  unfold b_Mod_put_54 at h
  have F : I b = I b := rfl
  exact (fb_Mod_put_59 o0 hH7 h).trans F
set_option maxRecDepth 20000 in
set_option maxHeartbeats 4000000 in
theorem fb_Mod_put_58 {n : Nat} {b : Nat} {r : Int32 × IM} (o0 : b < 102 ∨ 102 + 39 ≤ b) {H7 : Int32 → Int32 → Int32 → Int32 → IM → Option (Int32 × IM)} (hH7 : ∀ (x1 : Int32) (x2 : Int32) (x3 : Int32) (x4 : Int32) (I : IM), H7 x1 x2 x3 x4 I = some r → r.2 b = I b) {x1 : Int32} {x2 : Int32} {x4 : Int32} {x5 : Int32} {I : IM} (h : b_Mod_put_58 n H7 x1 x2 x4 x5 I = some r) : r.2 b = I b := by
  unfold b_Mod_put_58 at h
  have F : I b = I b := rfl
  exact (fb_Mod_put_59 o0 hH7 h).trans F
set_option maxRecDepth 20000 in
set_option maxHeartbeats 4000000 in
theorem fb_Mod_put_162 {n : Nat} {b : Nat} {r : Int32 × IM} (o0 : b < 102 ∨ 102 + 39 ≤ b) {H117 : Int32 → Int32 → IM → Option (Int32 × IM)} (hH117 : ∀ (x1 : Int32) (x4 : Int32) (I : IM), H117 x1 x4 I = some r → r.2 b = I b) {x1 : Int32} {x4 : Int32} {I : IM} (h : b_Mod_put_162 n H117 x1 x4 I = some r) : r.2 b = I b := by
  unfold b_Mod_put_162 at h
  have F : I b = I b := rfl
  exact (hH117 _ _ _ h).trans F
set_option maxRecDepth 20000 in
set_option maxHeartbeats 4000000 in
theorem fl_Mod_put_117 {n : Nat} {b : Nat} {r : Int32 × IM} (o0 : b < 102 ∨ 102 + 39 ≤ b)  : ∀ (f : Nat) (x1 : Int32) (x4 : Int32) (I : IM), l_Mod_put_117 n  f x1 x4 I = some r → r.2 b = I b
  | 0, _, _, _, h => by cases h
  | f + 1, x1, x4, I, h => by
    have ih := fl_Mod_put_117 (b := b) (r := r) (n := n)   o0 f
    rw [l_Mod_put_117] at h
    have F : I b = I b := rfl
    refine em_t (c := (4 : Int32) ≤ x4) (fun q15 => ?_) (fun q15 => ?_)
    · replace h := ite_t h q15
      cases h
      exact F
    · replace h := ite_f h q15
      refine em_t (c := (((x1 : Int32) >>> ((8 * x4 : Int32) &&& 31)) &&& 255 : Int32) ≤ 0) (fun q16 => ?_) (fun q16 => ?_)
      · replace h := ite_t h q16
        exact (fb_Mod_put_162 o0 ih h).trans F
      · replace h := ite_f h q16
        obtain ⟨c17, h⟩ := chk_e h
        obtain ⟨I18, hI18, h⟩ := lt_x h
        replace F := (show I18 b = _ from by first | exact fr_up hI18 (by first | omega | (intro e; subst e; revert o0; decide)) | exact fr_fil hI18 (by omega) | exact fr_cpy hI18 (by omega)).trans F
        obtain ⟨I19, hI19, h⟩ := lt_x h
        replace F := (show I19 b = _ from by first | exact fr_up hI19 (by first | omega | (intro e; subst e; revert o0; decide)) | exact fr_fil hI19 (by omega) | exact fr_cpy hI19 (by omega)).trans F
        exact (fb_Mod_put_162 o0 ih h).trans F
set_option maxRecDepth 20000 in
set_option maxHeartbeats 4000000 in
theorem fl_Mod_put_7 {n : Nat} {b : Nat} {r : Int32 × IM} (o0 : b < 102 ∨ 102 + 39 ≤ b)  : ∀ (f : Nat) (x1 : Int32) (x2 : Int32) (x3 : Int32) (x4 : Int32) (I : IM), l_Mod_put_7 n  f x1 x2 x3 x4 I = some r → r.2 b = I b
  | 0, _, _, _, _, _, h => by cases h
  | f + 1, x1, x2, x3, x4, I, h => by
    have ih := fl_Mod_put_7 (b := b) (r := r) (n := n)   o0 f
    rw [l_Mod_put_7] at h
    have F : I b = I b := rfl
    refine em_t (c := (4 : Int32) ≤ x4) (fun q1 => ?_) (fun q1 => ?_)
    · replace h := ite_t h q1
      obtain ⟨v4, e5, h⟩ := bnd_e h
      replace F := (fr_Mod_refuse e5 (by first | omega | exact outA o0 (by decide))).trans F
      refine em_t (c := (v4.1 : Int32) = 0) (fun q6 => ?_) (fun q6 => ?_)
      · replace h := ite_t h q6
        exact (fl_Mod_put_117 o0  _ _ _ _ h).trans F
      · replace h := ite_f h q6
        cases h
        exact F
    · replace h := ite_f h q1
      refine em_t (c := x3 = 0) (fun q7 => ?_) (fun q7 => ?_)
      · replace h := ite_t h q7
        exact (fb_Mod_put_58 o0 ih h).trans F
      · replace h := ite_f h q7
        refine em_t (c := (((x1 : Int32) >>> ((8 * x4 : Int32) &&& 31)) &&& 255 : Int32) = 0) (fun q8 => ?_) (fun q8 => ?_)
        · replace h := ite_t h q8
          exact (fb_Mod_put_54 o0 ih h).trans F
        · replace h := ite_f h q8
          refine em_t (c := (((x1 : Int32) >>> ((8 * x4 : Int32) &&& 31)) &&& 255 : Int32) = (10 : Int32)) (fun q9 => ?_) (fun q9 => ?_)
          · replace h := ite_t h q9
            exact (fb_Mod_put_54 o0 ih h).trans F
          · replace h := ite_f h q9
            obtain ⟨v10, e11, h⟩ := bnd_e h
            exact (ih _ _ _ _ _ h).trans F
set_option maxRecDepth 20000 in
set_option maxHeartbeats 4000000 in
theorem fr_Mod_put {n : Nat} {x1 : Int32} {I : IM} {b : Nat} {r : Int32 × IM}  (h : f_Mod_put n x1 I = some r) (o0 : b < 102 ∨ 102 + 39 ≤ b) : r.2 b = I b := by
  unfold f_Mod_put at h
  have F : I b = I b := rfl
  exact (fl_Mod_put_7 o0  _ _ _ _ _ _ h).trans F
set_option maxRecDepth 20000 in
set_option maxHeartbeats 4000000 in
theorem fb_Mod_end_30 {b : Nat} {r : IM} (o0 : b < 102 ∨ 102 + 39 ≤ b)   {I : IM} (h : b_Mod_end_30    I = some r) : r b = I b := by
  unfold b_Mod_end_30 at h
  have F : I b = I b := rfl
  cases h
  exact F
set_option maxRecDepth 20000 in
set_option maxHeartbeats 4000000 in
theorem fr_Mod_end {x1 : Int32} {I : IM} {b : Nat} {r : IM}  (h : f_Mod_end x1 I = some r) (o0 : b < 102 ∨ 102 + 39 ≤ b) : r b = I b := by
  unfold f_Mod_end at h
  have F : I b = I b := rfl
  obtain ⟨v1, e2, h⟩ := bnd_e h
  obtain ⟨v4, e5, h⟩ := bnd_e h
  replace F := (fr_Mod_refuse e5 (by first | omega | exact outA o0 (by decide))).trans F
  refine em_f (c := (v4.1 : Int32) = 0) (fun q6 => ?_) (fun q6 => ?_)
  · replace h := ite_f h q6
    exact (fb_Mod_end_30 o0  h).trans F
  · replace h := ite_t h q6
    obtain ⟨I7, hI7, h⟩ := lt_x h
    replace F := (show I7 b = _ from by first | exact fr_up hI7 (by first | omega | (intro e; subst e; revert o0; decide)) | exact fr_fil hI7 (by omega) | exact fr_cpy hI7 (by omega)).trans F
    exact (fb_Mod_end_30 o0  h).trans F
set_option maxRecDepth 20000 in
set_option maxHeartbeats 4000000 in
theorem fb_Mod_advance_93 {n : Nat} {J : JM} {b : Nat} {r : IM} (o0 : b < 102 ∨ 102 + 39 ≤ b) {H2 : Int32 → IM → Option (IM)} (hH2 : ∀ (x1 : Int32) (I : IM), H2 x1 I = some r → r b = I b) {x1 : Int32} {x3 : Int32} {I : IM} (h : b_Mod_advance_93 n J H2 x1 x3 I = some r) : r b = I b := by
  unfold b_Mod_advance_93 at h
  have F : I b = I b := rfl
  obtain ⟨I46, hI46, h⟩ := lt_x h
  replace F := (show I46 b = _ from by first | exact fr_up hI46 (by first | omega | (intro e; subst e; revert o0; decide)) | exact fr_fil hI46 (by omega) | exact fr_cpy hI46 (by omega)).trans F
  exact (hH2 _ _ h).trans F
set_option maxRecDepth 20000 in
set_option maxHeartbeats 4000000 in
theorem fl_Mod_advance_51 {n : Nat} {J : JM} {b : Nat} {r : IM} (o0 : b < 102 ∨ 102 + 39 ≤ b) {H2 : Int32 → IM → Option (IM)} (hH2 : ∀ (x1 : Int32) (I : IM), H2 x1 I = some r → r b = I b) : ∀ (f : Nat) (x1 : Int32) (x3 : Int32) (I : IM), l_Mod_advance_51 n J H2 f x1 x3 I = some r → r b = I b
  | 0, _, _, _, h => by cases h
  | f + 1, x1, x3, I, h => by
    have ih := fl_Mod_advance_51 (b := b) (r := r) (n := n)  (J := J) o0 hH2 f
    rw [l_Mod_advance_51] at h
    have F : I b = I b := rfl
    refine em_t (c := x3 = 0) (fun q39 => ?_) (fun q39 => ?_)
    · replace h := ite_t h q39
      exact (fb_Mod_advance_93 o0 hH2 h).trans F
    · replace h := ite_f h q39
      refine em_t (c := (I MO 2 : Int32) ≤ (I MO 13 : Int32)) (fun q40 => ?_) (fun q40 => ?_)
      · replace h := ite_t h q40
        exact (fb_Mod_advance_93 o0 hH2 h).trans F
      · replace h := ite_f h q40
        obtain ⟨c41, h⟩ := chk_e h
        refine em_t (c := (I A_signs (I MO 13 : Int32).toNatClampNeg : Int32) = (10 : Int32)) (fun q42 => ?_) (fun q42 => ?_)
        · replace h := ite_t h q42
          exact (fb_Mod_advance_93 o0 hH2 h).trans F
        · replace h := ite_f h q42
          obtain ⟨I43, hI43, h⟩ := lt_x h
          replace F := (show I43 b = _ from by first | exact fr_up hI43 (by first | omega | (intro e; subst e; revert o0; decide)) | exact fr_fil hI43 (by omega) | exact fr_cpy hI43 (by omega)).trans F
          exact (ih _ _ _ h).trans F
set_option maxRecDepth 20000 in
set_option maxHeartbeats 4000000 in
theorem fb_Mod_advance_459 {n : Nat} {J : JM} {b : Nat} {r : IM} (o0 : b < 102 ∨ 102 + 39 ≤ b)   {I : IM} (h : b_Mod_advance_459 n J   I = some r) : r b = I b := by
  unfold b_Mod_advance_459 at h
  have F : I b = I b := rfl
  cases h
  exact F
set_option maxRecDepth 20000 in
set_option maxHeartbeats 4000000 in
theorem fl_Mod_advance_149 {n : Nat} {J : JM} {b : Nat} {r : IM} (o0 : b < 102 ∨ 102 + 39 ≤ b)  : ∀ (f : Nat)  (I : IM), l_Mod_advance_149 n J  f  I = some r → r b = I b
  | 0, _, h => by cases h
  | f + 1, I, h => by
    have ih := fl_Mod_advance_149 (b := b) (r := r) (n := n)  (J := J) o0 f
    rw [l_Mod_advance_149] at h
    have F : I b = I b := rfl
    obtain ⟨v47, e48, h⟩ := bnd_e h
    obtain ⟨v49, e50, h⟩ := bnd_e h
    refine em_t (c := v49 = 0) (fun q51 => ?_) (fun q51 => ?_)
    · replace h := ite_t h q51
      obtain ⟨v52, e53, h⟩ := bnd_e h
      obtain ⟨I54, hI54, h⟩ := lt_x h
      replace F := (show I54 b = _ from by first | exact fr_up hI54 (by first | omega | (intro e; subst e; revert o0; decide)) | exact fr_fil hI54 (by omega) | exact fr_cpy hI54 (by omega)).trans F
      exact (fb_Mod_advance_459 o0  h).trans F
    · replace h := ite_f h q51
      obtain ⟨I55, hI55, h⟩ := lt_x h
      replace F := (show I55 b = _ from by first | exact fr_up hI55 (by first | omega | (intro e; subst e; revert o0; decide)) | exact fr_fil hI55 (by omega) | exact fr_cpy hI55 (by omega)).trans F
      exact (ih _ h).trans F
set_option maxRecDepth 20000 in
set_option maxHeartbeats 4000000 in
theorem fb_Mod_advance_274 {n : Nat} {J : JM} {b : Nat} {r : IM} (o0 : b < 102 ∨ 102 + 39 ≤ b) {H215 : IM → Option (IM)} (hH215 : ∀  (I : IM), H215  I = some r → r b = I b) {y1 : Int32} {I : IM} (h : b_Mod_advance_274 n J H215 y1 I = some r) : r b = I b := by
  unfold b_Mod_advance_274 at h
  have F : I b = I b := rfl
  obtain ⟨I66, hI66, h⟩ := lt_x h
  replace F := (show I66 b = _ from by first | exact fr_up hI66 (by first | omega | (intro e; subst e; revert o0; decide)) | exact fr_fil hI66 (by omega) | exact fr_cpy hI66 (by omega)).trans F
  obtain ⟨I67, hI67, h⟩ := lt_x h
  replace F := (show I67 b = _ from by first | exact fr_up hI67 (by first | omega | (intro e; subst e; revert o0; decide)) | exact fr_fil hI67 (by omega) | exact fr_cpy hI67 (by omega)).trans F
  exact (hH215 _ h).trans F
set_option maxRecDepth 20000 in
set_option maxHeartbeats 4000000 in
theorem fl_Mod_advance_215 {n : Nat} {J : JM} {b : Nat} {r : IM} (o0 : b < 102 ∨ 102 + 39 ≤ b)  : ∀ (f : Nat)  (I : IM), l_Mod_advance_215 n J  f  I = some r → r b = I b
  | 0, _, h => by cases h
  | f + 1, I, h => by
    have ih := fl_Mod_advance_215 (b := b) (r := r) (n := n)  (J := J) o0 f
    rw [l_Mod_advance_215] at h
    have F : I b = I b := rfl
    obtain ⟨v56, e57, h⟩ := bnd_e h
    obtain ⟨v58, e59, h⟩ := bnd_e h
    refine em_t (c := v58 = 0) (fun q60 => ?_) (fun q60 => ?_)
    · replace h := ite_t h q60
      obtain ⟨I62, hI62, h⟩ := lt_x h
      replace F := (show I62 b = _ from by first | exact fr_up hI62 (by first | omega | (intro e; subst e; revert o0; decide)) | exact fr_fil hI62 (by omega) | exact fr_cpy hI62 (by omega)).trans F
      exact (fb_Mod_advance_459 o0  h).trans F
    · replace h := ite_f h q60
      refine em_t (c := (7 : Int32) ≤ ((I MO 13) - (I MO 12) : Int32)) (fun q63 => ?_) (fun q63 => ?_)
      · replace h := ite_t h q63
        exact (fb_Mod_advance_274 o0 ih h).trans F
      · replace h := ite_f h q63
        obtain ⟨v64, e65, h⟩ := bnd_e h
        exact (fb_Mod_advance_274 o0 ih h).trans F
set_option maxRecDepth 20000 in
set_option maxHeartbeats 4000000 in
theorem fb_Mod_advance_422 {n : Nat} {J : JM} {b : Nat} {r : IM} (o0 : b < 102 ∨ 102 + 39 ≤ b)  {x2 : Int32} {x3 : Int32} {y1 : Int32} {I : IM} (h : b_Mod_advance_422 n J  x2 x3 y1 I = some r) : r b = I b := by
  unfold b_Mod_advance_422 at h
  have F : I b = I b := rfl
  obtain ⟨I68, hI68, h⟩ := lt_x h
  replace F := (show I68 b = _ from by first | exact fr_up hI68 (by first | omega | (intro e; subst e; revert o0; decide)) | exact fr_fil hI68 (by omega) | exact fr_cpy hI68 (by omega)).trans F
  obtain ⟨I71, hI71, h⟩ := lt_x h
  replace F := (show I71 b = _ from by first | exact fr_up hI71 (by first | omega | (intro e; subst e; revert o0; decide)) | exact fr_fil hI71 (by omega) | exact fr_cpy hI71 (by omega)).trans F
  exact (fb_Mod_advance_459 o0  h).trans F
set_option maxRecDepth 20000 in
set_option maxHeartbeats 4000000 in
theorem fl_Mod_advance_2 {n : Nat} {J : JM} {b : Nat} {r : IM} (o0 : b < 102 ∨ 102 + 39 ≤ b)  : ∀ (f : Nat) (x1 : Int32) (I : IM), l_Mod_advance_2 n J  f x1 I = some r → r b = I b
  | 0, _, _, h => by cases h
  | f + 1, x1, I, h => by
    have ih := fl_Mod_advance_2 (b := b) (r := r) (n := n)  (J := J) o0 f
    rw [l_Mod_advance_2] at h
    have F : I b = I b := rfl
    refine em_t (c := x1 = 0) (fun q1 => ?_) (fun q1 => ?_)
    · replace h := ite_t h q1
      obtain ⟨I2, hI2, h⟩ := lt_x h
      replace F := (show I2 b = _ from by first | exact fr_up hI2 (by first | omega | (intro e; subst e; revert o0; decide)) | exact fr_fil hI2 (by omega) | exact fr_cpy hI2 (by omega)).trans F
      obtain ⟨v3, e4, h⟩ := bnd_e h
      obtain ⟨v5, e6, h⟩ := bnd_e h
      refine em_t (c := v5 = 0) (fun q7 => ?_) (fun q7 => ?_)
      · replace h := ite_t h q7
        obtain ⟨v8, e9, h⟩ := bnd_e h
        refine em_t (c := v8 = 0) (fun q10 => ?_) (fun q10 => ?_)
        · replace h := ite_t h q10
          obtain ⟨v11, e12, h⟩ := bnd_e h
          refine em_t (c := (if v11 = (61 : Int32) then (if v3 = (61 : Int32) then 1 else (if v3 = (33 : Int32) then 1 else (if v3 = (60 : Int32) then 1 else 0))) else 0 : Int32) = 0) (fun q17 => ?_) (fun q17 => ?_)
          · replace h := ite_t h q17
            refine em_f (c := v3 = 0) (fun q18 => ?_) (fun q18 => ?_)
            · replace h := ite_f h q18
              obtain ⟨v19, e20, h⟩ := bnd_e h
              obtain ⟨I22, hI22, h⟩ := lt_x h
              replace F := (show I22 b = _ from by first | exact fr_up hI22 (by first | omega | (intro e; subst e; revert o0; decide)) | exact fr_fil hI22 (by omega) | exact fr_cpy hI22 (by omega)).trans F
              obtain ⟨I25, hI25, h⟩ := lt_x h
              replace F := (show I25 b = _ from by first | exact fr_up hI25 (by first | omega | (intro e; subst e; revert o0; decide)) | exact fr_fil hI25 (by omega) | exact fr_cpy hI25 (by omega)).trans F
              exact (fb_Mod_advance_459 o0  h).trans F
            · replace h := ite_t h q18
              exact (fb_Mod_advance_422 o0  h).trans F
          · replace h := ite_f h q17
            obtain ⟨I28, hI28, h⟩ := lt_x h
            replace F := (show I28 b = _ from by first | exact fr_up hI28 (by first | omega | (intro e; subst e; revert o0; decide)) | exact fr_fil hI28 (by omega) | exact fr_cpy hI28 (by omega)).trans F
            obtain ⟨I31, hI31, h⟩ := lt_x h
            replace F := (show I31 b = _ from by first | exact fr_up hI31 (by first | omega | (intro e; subst e; revert o0; decide)) | exact fr_fil hI31 (by omega) | exact fr_cpy hI31 (by omega)).trans F
            exact (fb_Mod_advance_459 o0  h).trans F
        · replace h := ite_f h q10
          obtain ⟨I32, hI32, h⟩ := lt_x h
          replace F := (show I32 b = _ from by first | exact fr_up hI32 (by first | omega | (intro e; subst e; revert o0; decide)) | exact fr_fil hI32 (by omega) | exact fr_cpy hI32 (by omega)).trans F
          exact (fl_Mod_advance_215 o0  _ _ h).trans F
      · replace h := ite_f h q7
        exact (fl_Mod_advance_149 o0  _ _ h).trans F
    · replace h := ite_f h q1
      obtain ⟨v33, e34, h⟩ := bnd_e h
      exact (fl_Mod_advance_51 o0 ih _ _ _ _ h).trans F
set_option maxRecDepth 20000 in
set_option maxHeartbeats 4000000 in
theorem fr_Mod_advance {n : Nat} {J : JM} {I : IM} {b : Nat} {r : IM}  (h : f_Mod_advance n J I = some r) (o0 : b < 102 ∨ 102 + 39 ≤ b) : r b = I b := by
  unfold f_Mod_advance at h
  have F : I b = I b := rfl
  exact (fl_Mod_advance_2 o0  _ _ _ h).trans F
set_option maxRecDepth 20000 in
set_option maxHeartbeats 4000000 in
theorem fr_Mod_fail {I : IM} {b : Nat} {r : IM}  (h : f_Mod_fail  I = some r) (o0 : b < 102 ∨ 102 + 39 ≤ b) : r b = I b := by
  unfold f_Mod_fail at h
  have F : I b = I b := rfl
  obtain ⟨I2, hI2, h⟩ := lt_x h
  replace F := (show I2 b = _ from by first | exact fr_up hI2 (by first | omega | (intro e; subst e; revert o0; decide)) | exact fr_fil hI2 (by omega) | exact fr_cpy hI2 (by omega)).trans F
  cases h
  exact F
set_option maxRecDepth 20000 in
set_option maxHeartbeats 4000000 in
theorem fb_Mod_need_30 {n : Nat} {J : JM} {b : Nat} {r : IM} (o0 : b < 102 ∨ 102 + 39 ≤ b)   {I : IM} (h : b_Mod_need_30 n J   I = some r) : r b = I b := by
  unfold b_Mod_need_30 at h
  have F : I b = I b := rfl
  cases h
  exact F
set_option maxRecDepth 20000 in
set_option maxHeartbeats 4000000 in
theorem fb_Mod_need_19 {n : Nat} {J : JM} {b : Nat} {r : IM} (o0 : b < 102 ∨ 102 + 39 ≤ b)   {I : IM} (h : b_Mod_need_19 n J   I = some r) : r b = I b := by
  unfold b_Mod_need_19 at h
  have F : I b = I b := rfl
  refine em_t (c := 0 ≤ (I MO 14 : Int32)) (fun q7 => ?_) (fun q7 => ?_)
  · replace h := ite_t h q7
    exact (fb_Mod_need_30 o0  h).trans F
  · replace h := ite_f h q7
    obtain ⟨v8, e9, h⟩ := bnd_e h
    replace F := (fr_Mod_advance e9 (by first | omega | exact outA o0 (by decide))).trans F
    exact (fb_Mod_need_30 o0  h).trans F
set_option maxRecDepth 20000 in
set_option maxHeartbeats 4000000 in
theorem fr_Mod_need {n : Nat} {J : JM} {x1 : Int32} {I : IM} {b : Nat} {r : IM}  (h : f_Mod_need n J x1 I = some r) (o0 : b < 102 ∨ 102 + 39 ≤ b) : r b = I b := by
  unfold f_Mod_need at h
  have F : I b = I b := rfl
  refine em_t (c := 0 ≤ (I MO 14 : Int32)) (fun q1 => ?_) (fun q1 => ?_)
  · replace h := ite_t h q1
    exact (fb_Mod_need_19 o0  h).trans F
  · replace h := ite_f h q1
    obtain ⟨v2, e3, h⟩ := bnd_e h
    refine em_f (c := v2 = 0) (fun q4 => ?_) (fun q4 => ?_)
    · replace h := ite_f h q4
      exact (fb_Mod_need_19 o0  h).trans F
    · replace h := ite_t h q4
      obtain ⟨v5, e6, h⟩ := bnd_e h
      replace F := (fr_Mod_fail e6 (by first | omega | exact outA o0 (by decide))).trans F
      exact (fb_Mod_need_19 o0  h).trans F
set_option maxRecDepth 20000 in
set_option maxHeartbeats 4000000 in
theorem fr_Mod_emit {x1 : Int32} {x2 : Int32} {I : IM} {b : Nat} {r : IM}  (h : f_Mod_emit x1 x2 I = some r) (o0 : b < 102 ∨ 102 + 39 ≤ b) : r b = I b := by
  unfold f_Mod_emit at h
  have F : I b = I b := rfl
  obtain ⟨c1, h⟩ := chk_e h
  obtain ⟨I2, hI2, h⟩ := lt_x h
  replace F := (show I2 b = _ from by first | exact fr_up hI2 (by first | omega | (intro e; subst e; revert o0; decide)) | exact fr_fil hI2 (by omega) | exact fr_cpy hI2 (by omega)).trans F
  obtain ⟨c3, h⟩ := chk_e h
  obtain ⟨I4, hI4, h⟩ := lt_x h
  replace F := (show I4 b = _ from by first | exact fr_up hI4 (by first | omega | (intro e; subst e; revert o0; decide)) | exact fr_fil hI4 (by omega) | exact fr_cpy hI4 (by omega)).trans F
  obtain ⟨I5, hI5, h⟩ := lt_x h
  replace F := (show I5 b = _ from by first | exact fr_up hI5 (by first | omega | (intro e; subst e; revert o0; decide)) | exact fr_fil hI5 (by omega) | exact fr_cpy hI5 (by omega)).trans F
  cases h
  exact F
set_option maxRecDepth 20000 in
set_option maxHeartbeats 4000000 in
theorem fb_Mod_push_18 {b : Nat} {r : IM} (o0 : b < 102 ∨ 102 + 39 ≤ b)  {x1 : Int32} {x2 : Int32} {x3 : Int32} {I : IM} (h : b_Mod_push_18   x1 x2 x3 I = some r) : r b = I b := by
  unfold b_Mod_push_18 at h
  have F : I b = I b := rfl
  obtain ⟨I6, hI6, h⟩ := lt_x h
  replace F := (show I6 b = _ from by first | exact fr_up hI6 (by first | omega | (intro e; subst e; revert o0; decide)) | exact fr_fil hI6 (by omega) | exact fr_cpy hI6 (by omega)).trans F
  obtain ⟨c7, h⟩ := chk_e h
  obtain ⟨I8, hI8, h⟩ := lt_x h
  replace F := (show I8 b = _ from by first | exact fr_up hI8 (by first | omega | (intro e; subst e; revert o0; decide)) | exact fr_fil hI8 (by omega) | exact fr_cpy hI8 (by omega)).trans F
  obtain ⟨c9, h⟩ := chk_e h
  obtain ⟨I10, hI10, h⟩ := lt_x h
  replace F := (show I10 b = _ from by first | exact fr_up hI10 (by first | omega | (intro e; subst e; revert o0; decide)) | exact fr_fil hI10 (by omega) | exact fr_cpy hI10 (by omega)).trans F
  obtain ⟨I11, hI11, h⟩ := lt_x h
  replace F := (show I11 b = _ from by first | exact fr_up hI11 (by first | omega | (intro e; subst e; revert o0; decide)) | exact fr_fil hI11 (by omega) | exact fr_cpy hI11 (by omega)).trans F
  cases h
  exact F
set_option maxRecDepth 20000 in
set_option maxHeartbeats 4000000 in
theorem fr_Mod_push {x1 : Int32} {x2 : Int32} {x3 : Int32} {I : IM} {b : Nat} {r : IM}  (h : f_Mod_push x1 x2 x3 I = some r) (o0 : b < 102 ∨ 102 + 39 ≤ b) : r b = I b := by
  unfold f_Mod_push at h
  have F : I b = I b := rfl
  refine em_t (c := x3 = 0) (fun q1 => ?_) (fun q1 => ?_)
  · replace h := ite_t h q1
    exact (fb_Mod_push_18 o0  h).trans F
  · replace h := ite_f h q1
    refine em_f (c := (I MO 28 : Int32) = (10 : Int32)) (fun q2 => ?_) (fun q2 => ?_)
    · replace h := ite_f h q2
      exact (fb_Mod_push_18 o0  h).trans F
    · replace h := ite_t h q2
      obtain ⟨v3, e4, h⟩ := bnd_e h
      replace F := (fr_Mod_fail e4 (by first | omega | exact outA o0 (by decide))).trans F
      cases h
      exact F
set_option maxRecDepth 20000 in
set_option maxHeartbeats 4000000 in
theorem fb_Mod_whole_55 {n : Nat} {b : Nat} {r : IM} (o0 : b < 102 ∨ 102 + 39 ≤ b)   {I : IM} (h : b_Mod_whole_55 n   I = some r) : r b = I b := by
  unfold b_Mod_whole_55 at h
  have F : I b = I b := rfl
  cases h
  exact F
set_option maxRecDepth 20000 in
set_option maxHeartbeats 4000000 in
theorem fl_Mod_whole_0 {n : Nat} {b : Nat} {r : IM} (o0 : b < 102 ∨ 102 + 39 ≤ b)  : ∀ (f : Nat)  (I : IM), l_Mod_whole_0 n  f  I = some r → r b = I b
  | 0, _, h => by cases h
  | f + 1, I, h => by
    have ih := fl_Mod_whole_0 (b := b) (r := r) (n := n)   o0 f
    rw [l_Mod_whole_0] at h
    have F : I b = I b := rfl
    refine em_t (c := (I MO 29 : Int32) ≤ 0) (fun q1 => ?_) (fun q1 => ?_)
    · replace h := ite_t h q1
      exact (fb_Mod_whole_55 o0  h).trans F
    · replace h := ite_f h q1
      obtain ⟨v2, e3, h⟩ := bnd_e h
      obtain ⟨v4, e5, h⟩ := bnd_e h
      refine em_t (c := v4 = 0) (fun q6 => ?_) (fun q6 => ?_)
      · replace h := ite_t h q6
        exact (fb_Mod_whole_55 o0  h).trans F
      · replace h := ite_f h q6
        obtain ⟨I7, hI7, h⟩ := lt_x h
        replace F := (show I7 b = _ from by first | exact fr_up hI7 (by first | omega | (intro e; subst e; revert o0; decide)) | exact fr_fil hI7 (by omega) | exact fr_cpy hI7 (by omega)).trans F
        obtain ⟨I8, hI8, h⟩ := lt_x h
        replace F := (show I8 b = _ from by first | exact fr_up hI8 (by first | omega | (intro e; subst e; revert o0; decide)) | exact fr_fil hI8 (by omega) | exact fr_cpy hI8 (by omega)).trans F
        obtain ⟨c9, h⟩ := chk_e h
        obtain ⟨v10, e11, h⟩ := bnd_e h
        replace F := (fr_Mod_emit e11 (by first | omega | exact outA o0 (by decide))).trans F
        exact (ih _ h).trans F
set_option maxRecDepth 20000 in
set_option maxHeartbeats 4000000 in
theorem fr_Mod_whole {n : Nat} {I : IM} {b : Nat} {r : IM}  (h : f_Mod_whole n I = some r) (o0 : b < 102 ∨ 102 + 39 ≤ b) : r b = I b := by
  unfold f_Mod_whole at h
  have F : I b = I b := rfl
  exact (fl_Mod_whole_0 o0  _ _ h).trans F
set_option maxRecDepth 20000 in
set_option maxHeartbeats 4000000 in
theorem fb_Mod_endSum_35 {b : Nat} {r : IM} (o0 : b < 102 ∨ 102 + 39 ≤ b)   {I : IM} (h : b_Mod_endSum_35    I = some r) : r b = I b := by
  unfold b_Mod_endSum_35 at h
  have F : I b = I b := rfl
  cases h
  exact F
set_option maxRecDepth 20000 in
set_option maxHeartbeats 4000000 in
theorem fr_Mod_endSum {I : IM} {b : Nat} {r : IM}  (h : f_Mod_endSum  I = some r) (o0 : b < 102 ∨ 102 + 39 ≤ b) : r b = I b := by
  unfold f_Mod_endSum at h
  have F : I b = I b := rfl
  obtain ⟨v1, e2, h⟩ := bnd_e h
  obtain ⟨v3, e4, h⟩ := bnd_e h
  refine em_t (c := v3 = 0) (fun q5 => ?_) (fun q5 => ?_)
  · replace h := ite_t h q5
    exact (fb_Mod_endSum_35 o0  h).trans F
  · replace h := ite_f h q5
    obtain ⟨I6, hI6, h⟩ := lt_x h
    replace F := (show I6 b = _ from by first | exact fr_up hI6 (by first | omega | (intro e; subst e; revert o0; decide)) | exact fr_fil hI6 (by omega) | exact fr_cpy hI6 (by omega)).trans F
    obtain ⟨c7, h⟩ := chk_e h
    obtain ⟨v8, e9, h⟩ := bnd_e h
    replace F := (fr_Mod_emit e9 (by first | omega | exact outA o0 (by decide))).trans F
    exact (fb_Mod_endSum_35 o0  h).trans F
set_option maxRecDepth 20000 in
set_option maxHeartbeats 4000000 in
theorem fb_Mod_endParts_39 {b : Nat} {r : IM} (o0 : b < 102 ∨ 102 + 39 ≤ b)   {I : IM} (h : b_Mod_endParts_39    I = some r) : r b = I b := by
  unfold b_Mod_endParts_39 at h
  have F : I b = I b := rfl
  cases h
  exact F
set_option maxRecDepth 20000 in
set_option maxHeartbeats 4000000 in
theorem fr_Mod_endParts {I : IM} {b : Nat} {r : IM}  (h : f_Mod_endParts  I = some r) (o0 : b < 102 ∨ 102 + 39 ≤ b) : r b = I b := by
  unfold f_Mod_endParts at h
  have F : I b = I b := rfl
  obtain ⟨v1, e2, h⟩ := bnd_e h
  replace F := (fr_Mod_endSum e2 (by first | omega | exact outA o0 (by decide))).trans F
  obtain ⟨v3, e4, h⟩ := bnd_e h
  obtain ⟨v5, e6, h⟩ := bnd_e h
  refine em_t (c := v5 = 0) (fun q7 => ?_) (fun q7 => ?_)
  · replace h := ite_t h q7
    exact (fb_Mod_endParts_39 o0  h).trans F
  · replace h := ite_f h q7
    obtain ⟨I8, hI8, h⟩ := lt_x h
    replace F := (show I8 b = _ from by first | exact fr_up hI8 (by first | omega | (intro e; subst e; revert o0; decide)) | exact fr_fil hI8 (by omega) | exact fr_cpy hI8 (by omega)).trans F
    obtain ⟨c9, h⟩ := chk_e h
    obtain ⟨v10, e11, h⟩ := bnd_e h
    replace F := (fr_Mod_emit e11 (by first | omega | exact outA o0 (by decide))).trans F
    exact (fb_Mod_endParts_39 o0  h).trans F
set_option maxRecDepth 20000 in
set_option maxHeartbeats 4000000 in
theorem fl_Mod_endExpression_4 {n : Nat} {b : Nat} {r : IM} (o0 : b < 102 ∨ 102 + 39 ≤ b)  : ∀ (f : Nat)  (I : IM), l_Mod_endExpression_4 n  f  I = some r → r b = I b
  | 0, _, h => by cases h
  | f + 1, I, h => by
    have ih := fl_Mod_endExpression_4 (b := b) (r := r) (n := n)   o0 f
    rw [l_Mod_endExpression_4] at h
    have F : I b = I b := rfl
    obtain ⟨v3, e4, h⟩ := bnd_e h
    refine em_f (c := v3 = (58 : Int32)) (fun q5 => ?_) (fun q5 => ?_)
    · replace h := ite_f h q5
      cases h
      exact F
    · replace h := ite_t h q5
      obtain ⟨I6, hI6, h⟩ := lt_x h
      replace F := (show I6 b = _ from by first | exact fr_up hI6 (by first | omega | (intro e; subst e; revert o0; decide)) | exact fr_fil hI6 (by omega) | exact fr_cpy hI6 (by omega)).trans F
      obtain ⟨I7, hI7, h⟩ := lt_x h
      replace F := (show I7 b = _ from by first | exact fr_up hI7 (by first | omega | (intro e; subst e; revert o0; decide)) | exact fr_fil hI7 (by omega) | exact fr_cpy hI7 (by omega)).trans F
      obtain ⟨c8, h⟩ := chk_e h
      obtain ⟨c9, h⟩ := chk_e h
      obtain ⟨I10, hI10, h⟩ := lt_x h
      replace F := (show I10 b = _ from by first | exact fr_up hI10 (by first | omega | (intro e; subst e; revert o0; decide)) | exact fr_fil hI10 (by omega) | exact fr_cpy hI10 (by omega)).trans F
      exact (ih _ h).trans F
set_option maxRecDepth 20000 in
set_option maxHeartbeats 4000000 in
theorem fr_Mod_endExpression {n : Nat} {I : IM} {b : Nat} {r : IM}  (h : f_Mod_endExpression n I = some r) (o0 : b < 102 ∨ 102 + 39 ≤ b) : r b = I b := by
  unfold f_Mod_endExpression at h
  have F : I b = I b := rfl
  obtain ⟨v1, e2, h⟩ := bnd_e h
  replace F := (fr_Mod_endParts e2 (by first | omega | exact outA o0 (by decide))).trans F
  exact (fl_Mod_endExpression_4 o0  _ _ h).trans F
set_option maxRecDepth 20000 in
set_option maxHeartbeats 4000000 in
theorem fb_Mod_step_11 {n : Nat} {J : JM} {b : Nat} {r : IM} (o0 : b < 102 ∨ 102 + 39 ≤ b)   {I : IM} (h : b_Mod_step_11 n J   I = some r) : r b = I b := by
  unfold b_Mod_step_11 at h
  have F : I b = I b := rfl
  cases h
  exact F
set_option maxRecDepth 20000 in
set_option maxHeartbeats 4000000 in
theorem fr_Mod_step {n : Nat} {J : JM} {I : IM} {b : Nat} {r : IM}  (h : f_Mod_step n J I = some r) (o0 : b < 102 ∨ 102 + 39 ≤ b) : r b = I b := by
  unfold f_Mod_step at h
  have F : I b = I b := rfl
  refine em_t (c := 0 ≤ (I MO 14 : Int32)) (fun q1 => ?_) (fun q1 => ?_)
  · replace h := ite_t h q1
    exact (fb_Mod_step_11 o0  h).trans F
  · replace h := ite_f h q1
    obtain ⟨v2, e3, h⟩ := bnd_e h
    replace F := (fr_Mod_advance e3 (by first | omega | exact outA o0 (by decide))).trans F
    exact (fb_Mod_step_11 o0  h).trans F
set_option maxRecDepth 20000 in
set_option maxHeartbeats 4000000 in
theorem fb_Mod_operand_27 {n : Nat} {J : JM} {b : Nat} {r : Int32 × IM} (o0 : b < 102 ∨ 102 + 39 ≤ b)   {I : IM} (h : b_Mod_operand_27 n J   I = some r) : r.2 b = I b := by
  unfold b_Mod_operand_27 at h
  have F : I b = I b := rfl
  obtain ⟨v49, e50, h⟩ := bnd_e h
  obtain ⟨v52, e53, h⟩ := bnd_e h
  replace F := (fr_Mod_push e53 (by first | omega | exact outA o0 (by decide))).trans F
  obtain ⟨v54, e55, h⟩ := bnd_e h
  replace F := (fr_Mod_step e55 (by first | omega | exact outA o0 (by decide))).trans F
  cases h
  exact F
set_option maxRecDepth 20000 in
set_option maxHeartbeats 4000000 in
theorem fb_Mod_operand_146 {n : Nat} {J : JM} {b : Nat} {r : Int32 × IM} (o0 : b < 102 ∨ 102 + 39 ≤ b)   {I : IM} (h : b_Mod_operand_146 n J   I = some r) : r.2 b = I b := by
  unfold b_Mod_operand_146 at h
  have F : I b = I b := rfl
  obtain ⟨v43, e44, h⟩ := bnd_e h
  replace F := (fr_Mod_step e44 (by first | omega | exact outA o0 (by decide))).trans F
  cases h
  exact F
set_option maxRecDepth 20000 in
set_option maxHeartbeats 4000000 in
theorem fb_Mod_operand_128 {n : Nat} {J : JM} {b : Nat} {r : Int32 × IM} (o0 : b < 102 ∨ 102 + 39 ≤ b)  {x1 : Int32} {I : IM} (h : b_Mod_operand_128 n J  x1 I = some r) : r.2 b = I b := by
  unfold b_Mod_operand_128 at h
  have F : I b = I b := rfl
  refine em_t (c := 0 ≤ (I MO 14 : Int32)) (fun q40 => ?_) (fun q40 => ?_)
  · replace h := ite_t h q40
    exact (fb_Mod_operand_146 o0  h).trans F
  · replace h := ite_f h q40
    obtain ⟨v41, e42, h⟩ := bnd_e h
    replace F := (fr_Mod_push e42 (by first | omega | exact outA o0 (by decide))).trans F
    exact (fb_Mod_operand_146 o0  h).trans F
set_option maxRecDepth 20000 in
set_option maxHeartbeats 4000000 in
theorem fb_Mod_operand_243 {n : Nat} {J : JM} {b : Nat} {r : Int32 × IM} (o0 : b < 102 ∨ 102 + 39 ≤ b)   {I : IM} (h : b_Mod_operand_243 n J   I = some r) : r.2 b = I b := by
  unfold b_Mod_operand_243 at h
  have F : I b = I b := rfl
  obtain ⟨v45, e46, h⟩ := bnd_e h
  replace F := (fr_Mod_step e46 (by first | omega | exact outA o0 (by decide))).trans F
  obtain ⟨v47, e48, h⟩ := bnd_e h
  replace F := (fr_Mod_whole e48 (by first | omega | exact outA o0 (by decide))).trans F
  cases h
  exact F
set_option maxRecDepth 20000 in
set_option maxHeartbeats 4000000 in
theorem fr_Mod_operand {n : Nat} {J : JM} {I : IM} {b : Nat} {r : Int32 × IM}  (h : f_Mod_operand n J I = some r) (o0 : b < 102 ∨ 102 + 39 ≤ b) : r.2 b = I b := by
  unfold f_Mod_operand at h
  have F : I b = I b := rfl
  obtain ⟨v1, e2, h⟩ := bnd_e h
  refine em_f (c := v1 = 0) (fun q3 => ?_) (fun q3 => ?_)
  · replace h := ite_f h q3
    exact (fb_Mod_operand_27 o0  h).trans F
  · replace h := ite_t h q3
    obtain ⟨v4, e5, h⟩ := bnd_e h
    refine em_f (c := v4 = 0) (fun q6 => ?_) (fun q6 => ?_)
    · replace h := ite_f h q6
      exact (fb_Mod_operand_27 o0  h).trans F
    · replace h := ite_t h q6
      obtain ⟨v7, e8, h⟩ := bnd_e h
      refine em_t (c := v7 = 0) (fun q9 => ?_) (fun q9 => ?_)
      · replace h := ite_t h q9
        obtain ⟨v10, e11, h⟩ := bnd_e h
        refine em_t (c := v10 = 0) (fun q12 => ?_) (fun q12 => ?_)
        · replace h := ite_t h q12
          obtain ⟨v13, e14, h⟩ := bnd_e h
          refine em_t (c := v13 = 0) (fun q15 => ?_) (fun q15 => ?_)
          · replace h := ite_t h q15
            refine em_f (c := (I MO 10 : Int32) = (200 : Int32)) (fun q16 => ?_) (fun q16 => ?_)
            · replace h := ite_f h q16
              obtain ⟨v17, e18, h⟩ := bnd_e h
              refine em_t (c := v17 = 0) (fun q19 => ?_) (fun q19 => ?_)
              · replace h := ite_t h q19
                obtain ⟨v20, e21, h⟩ := bnd_e h
                replace F := (fr_Mod_fail e21 (by first | omega | exact outA o0 (by decide))).trans F
                cases h
                exact F
              · replace h := ite_f h q19
                obtain ⟨v22, e23, h⟩ := bnd_e h
                replace F := (fr_Mod_emit e23 (by first | omega | exact outA o0 (by decide))).trans F
                obtain ⟨c24, h⟩ := chk_e h
                obtain ⟨I25, hI25, h⟩ := lt_x h
                replace F := (show I25 b = _ from by first | exact fr_up hI25 (by first | omega | (intro e; subst e; revert o0; decide)) | exact fr_fil hI25 (by omega) | exact fr_cpy hI25 (by omega)).trans F
                exact (fb_Mod_operand_243 o0  h).trans F
            · replace h := ite_t h q16
              obtain ⟨v26, e27, h⟩ := bnd_e h
              replace F := (fr_Mod_emit e27 (by first | omega | exact outA o0 (by decide))).trans F
              exact (fb_Mod_operand_243 o0  h).trans F
          · replace h := ite_f h q15
            obtain ⟨v28, e29, h⟩ := bnd_e h
            replace F := (fr_Mod_step e29 (by first | omega | exact outA o0 (by decide))).trans F
            refine em_t (c := 0 ≤ (v28 MO 14 : Int32)) (fun q30 => ?_) (fun q30 => ?_)
            · replace h := ite_t h q30
              exact (fb_Mod_operand_128 o0  h).trans F
            · replace h := ite_f h q30
              obtain ⟨v31, e32, h⟩ := bnd_e h
              refine em_f (c := v31 = 0) (fun q33 => ?_) (fun q33 => ?_)
              · replace h := ite_f h q33
                exact (fb_Mod_operand_128 o0  h).trans F
              · replace h := ite_t h q33
                obtain ⟨v34, e35, h⟩ := bnd_e h
                replace F := (fr_Mod_fail e35 (by first | omega | exact outA o0 (by decide))).trans F
                exact (fb_Mod_operand_128 o0  h).trans F
        · replace h := ite_f h q12
          obtain ⟨v36, e37, h⟩ := bnd_e h
          replace F := (fr_Mod_push e37 (by first | omega | exact outA o0 (by decide))).trans F
          obtain ⟨v38, e39, h⟩ := bnd_e h
          replace F := (fr_Mod_step e39 (by first | omega | exact outA o0 (by decide))).trans F
          cases h
          exact F
      · replace h := ite_f h q9
        exact (fb_Mod_operand_27 o0  h).trans F
set_option maxRecDepth 20000 in
set_option maxHeartbeats 4000000 in
theorem fb_Mod_operator_70 {n : Nat} {J : JM} {b : Nat} {r : Int32 × IM} (o0 : b < 102 ∨ 102 + 39 ≤ b)  {x1 : Int32} {I : IM} (h : b_Mod_operator_70 n J  x1 I = some r) : r.2 b = I b := by
  unfold b_Mod_operator_70 at h
  have F : I b = I b := rfl
  obtain ⟨v83, e84, h⟩ := bnd_e h
  replace F := (fr_Mod_endSum e84 (by first | omega | exact outA o0 (by decide))).trans F
  obtain ⟨v85, e86, h⟩ := bnd_e h
  obtain ⟨v87, e88, h⟩ := bnd_e h
  refine em_t (c := v87 = 0) (fun q89 => ?_) (fun q89 => ?_)
  · replace h := ite_t h q89
    obtain ⟨v91, e92, h⟩ := bnd_e h
    replace F := (fr_Mod_push e92 (by first | omega | exact outA o0 (by decide))).trans F
    obtain ⟨v93, e94, h⟩ := bnd_e h
    replace F := (fr_Mod_step e94 (by first | omega | exact outA o0 (by decide))).trans F
    cases h
    exact F
  · replace h := ite_f h q89
    obtain ⟨v95, e96, h⟩ := bnd_e h
    replace F := (fr_Mod_fail e96 (by first | omega | exact outA o0 (by decide))).trans F
    cases h
    exact F
set_option maxRecDepth 20000 in
set_option maxHeartbeats 4000000 in
theorem fb_Mod_operator_415 {n : Nat} {J : JM} {b : Nat} {r : Int32 × IM} (o0 : b < 102 ∨ 102 + 39 ≤ b)   {I : IM} (h : b_Mod_operator_415 n J   I = some r) : r.2 b = I b := by
  unfold b_Mod_operator_415 at h
  have F : I b = I b := rfl
  obtain ⟨v64, e65, h⟩ := bnd_e h
  replace F := (fr_Mod_step e65 (by first | omega | exact outA o0 (by decide))).trans F
  obtain ⟨v66, e67, h⟩ := bnd_e h
  replace F := (fr_Mod_whole e67 (by first | omega | exact outA o0 (by decide))).trans F
  cases h
  exact F
set_option maxRecDepth 20000 in
set_option maxHeartbeats 4000000 in
theorem fb_Mod_operator_413 {n : Nat} {J : JM} {b : Nat} {r : Int32 × IM} (o0 : b < 102 ∨ 102 + 39 ≤ b)  {y3 : Int32} {y2 : Int32} {y1 : Int32} {I : IM} (h : b_Mod_operator_413 n J  y3 y2 y1 I = some r) : r.2 b = I b := by
  unfold b_Mod_operator_413 at h
  have F : I b = I b := rfl
  obtain ⟨c62, h⟩ := chk_e h
  obtain ⟨I63, hI63, h⟩ := lt_x h
  replace F := (show I63 b = _ from by first | exact fr_up hI63 (by first | omega | (intro e; subst e; revert o0; decide)) | exact fr_fil hI63 (by omega) | exact fr_cpy hI63 (by omega)).trans F
  exact (fb_Mod_operator_415 o0  h).trans F
set_option maxRecDepth 20000 in
set_option maxHeartbeats 4000000 in
theorem fb_Mod_operator_442 {n : Nat} {J : JM} {b : Nat} {r : Int32 × IM} (o0 : b < 102 ∨ 102 + 39 ≤ b)   {I : IM} (h : b_Mod_operator_442 n J   I = some r) : r.2 b = I b := by
  unfold b_Mod_operator_442 at h
  have F : I b = I b := rfl
  cases h
  exact F
set_option maxRecDepth 20000 in
set_option maxHeartbeats 4000000 in
theorem fb_Mod_operator_438 {n : Nat} {J : JM} {b : Nat} {r : Int32 × IM} (o0 : b < 102 ∨ 102 + 39 ≤ b)   {I : IM} (h : b_Mod_operator_438 n J   I = some r) : r.2 b = I b := by
  unfold b_Mod_operator_438 at h
  have F : I b = I b := rfl
  obtain ⟨v70, e71, h⟩ := bnd_e h
  replace F := (fr_Mod_fail e71 (by first | omega | exact outA o0 (by decide))).trans F
  exact (fb_Mod_operator_442 o0  h).trans F
set_option maxRecDepth 20000 in
set_option maxHeartbeats 4000000 in
theorem fb_Mod_operator_425 {n : Nat} {J : JM} {b : Nat} {r : Int32 × IM} (o0 : b < 102 ∨ 102 + 39 ≤ b)  {x1 : Int32} {I : IM} (h : b_Mod_operator_425 n J  x1 I = some r) : r.2 b = I b := by
  unfold b_Mod_operator_425 at h
  have F : I b = I b := rfl
  refine em_t (c := 0 < (I MO 29 : Int32)) (fun q68 => ?_) (fun q68 => ?_)
  · replace h := ite_t h q68
    exact (fb_Mod_operator_438 o0  h).trans F
  · replace h := ite_f h q68
    refine em_t (c := x1 = (59 : Int32)) (fun q69 => ?_) (fun q69 => ?_)
    · replace h := ite_t h q69
      exact (fb_Mod_operator_442 o0  h).trans F
    · replace h := ite_f h q69
      exact (fb_Mod_operator_438 o0  h).trans F
set_option maxRecDepth 20000 in
set_option maxHeartbeats 4000000 in
theorem fb_Mod_operator_302 {n : Nat} {J : JM} {b : Nat} {r : Int32 × IM} (o0 : b < 102 ∨ 102 + 39 ≤ b)  {x1 : Int32} {x2 : Int32} {y0 : Int32} {I : IM} (h : b_Mod_operator_302 n J  x1 x2 y0 I = some r) : r.2 b = I b := by
  unfold b_Mod_operator_302 at h
  have F : I b = I b := rfl
  refine em_f (c := x1 = (41 : Int32)) (fun q72 => ?_) (fun q72 => ?_)
  · replace h := ite_f h q72
    exact (fb_Mod_operator_425 o0  h).trans F
  · replace h := ite_t h q72
    refine em_t (c := y0 = 0) (fun q73 => ?_) (fun q73 => ?_)
    · replace h := ite_t h q73
      exact (fb_Mod_operator_425 o0  h).trans F
    · replace h := ite_f h q73
      obtain ⟨I74, hI74, h⟩ := lt_x h
      replace F := (show I74 b = _ from by first | exact fr_up hI74 (by first | omega | (intro e; subst e; revert o0; decide)) | exact fr_fil hI74 (by omega) | exact fr_cpy hI74 (by omega)).trans F
      obtain ⟨I75, hI75, h⟩ := lt_x h
      replace F := (show I75 b = _ from by first | exact fr_up hI75 (by first | omega | (intro e; subst e; revert o0; decide)) | exact fr_fil hI75 (by omega) | exact fr_cpy hI75 (by omega)).trans F
      refine em_t (c := x2 = (40 : Int32)) (fun q76 => ?_) (fun q76 => ?_)
      · replace h := ite_t h q76
        exact (fb_Mod_operator_415 o0  h).trans F
      · replace h := ite_f h q76
        obtain ⟨v78, e79, h⟩ := bnd_e h
        replace F := (fr_Mod_emit e79 (by first | omega | exact outA o0 (by decide))).trans F
        obtain ⟨c80, h⟩ := chk_e h
        refine em_t (c := x2 ≤ (1000 : Int32)) (fun q81 => ?_) (fun q81 => ?_)
        · replace h := ite_t h q81
          refine em_f (c := x2 = (763 : Int32)) (fun q82 => ?_) (fun q82 => ?_)
          · replace h := ite_f h q82
            exact (fb_Mod_operator_413 o0  h).trans F
          · replace h := ite_t h q82
            exact (fb_Mod_operator_413 o0  h).trans F
        · replace h := ite_f h q81
          exact (fb_Mod_operator_413 o0  h).trans F
set_option maxRecDepth 20000 in
set_option maxHeartbeats 4000000 in
theorem fb_Mod_operator_297 {n : Nat} {J : JM} {b : Nat} {r : Int32 × IM} (o0 : b < 102 ∨ 102 + 39 ≤ b)  {x1 : Int32} {x2 : Int32} {I : IM} (h : b_Mod_operator_297 n J  x1 x2 I = some r) : r.2 b = I b := by
  unfold b_Mod_operator_297 at h
  have F : I b = I b := rfl
  exact (fb_Mod_operator_302 o0  h).trans F
set_option maxRecDepth 20000 in
set_option maxHeartbeats 4000000 in
theorem fb_Mod_operator_271 {n : Nat} {J : JM} {b : Nat} {r : Int32 × IM} (o0 : b < 102 ∨ 102 + 39 ≤ b)  {x1 : Int32} {x2 : Int32} {I : IM} (h : b_Mod_operator_271 n J  x1 x2 I = some r) : r.2 b = I b := by
  unfold b_Mod_operator_271 at h
  have F : I b = I b := rfl
  refine em_t (c := x2 = (40 : Int32)) (fun q46 => ?_) (fun q46 => ?_)
  · replace h := ite_t h q46
    exact (fb_Mod_operator_297 o0  h).trans F
  · replace h := ite_f h q46
    refine em_t (c := x2 = (1060 : Int32)) (fun q47 => ?_) (fun q47 => ?_)
    · replace h := ite_t h q47
      exact (fb_Mod_operator_297 o0  h).trans F
    · replace h := ite_f h q47
      obtain ⟨v48, e49, h⟩ := bnd_e h
      refine em_f (c := x1 = (41 : Int32)) (fun q51 => ?_) (fun q51 => ?_)
      · replace h := ite_f h q51
        exact (fb_Mod_operator_425 o0  h).trans F
      · replace h := ite_t h q51
        refine em_t (c := (if v48 = 0 then 0 else 1 : Int32) = 0) (fun q52 => ?_) (fun q52 => ?_)
        · replace h := ite_t h q52
          exact (fb_Mod_operator_425 o0  h).trans F
        · replace h := ite_f h q52
          obtain ⟨I53, hI53, h⟩ := lt_x h
          replace F := (show I53 b = _ from by first | exact fr_up hI53 (by first | omega | (intro e; subst e; revert o0; decide)) | exact fr_fil hI53 (by omega) | exact fr_cpy hI53 (by omega)).trans F
          obtain ⟨I54, hI54, h⟩ := lt_x h
          replace F := (show I54 b = _ from by first | exact fr_up hI54 (by first | omega | (intro e; subst e; revert o0; decide)) | exact fr_fil hI54 (by omega) | exact fr_cpy hI54 (by omega)).trans F
          refine em_t (c := x2 = (40 : Int32)) (fun q55 => ?_) (fun q55 => ?_)
          · replace h := ite_t h q55
            exact (fb_Mod_operator_415 o0  h).trans F
          · replace h := ite_f h q55
            obtain ⟨v57, e58, h⟩ := bnd_e h
            replace F := (fr_Mod_emit e58 (by first | omega | exact outA o0 (by decide))).trans F
            obtain ⟨c59, h⟩ := chk_e h
            refine em_t (c := x2 ≤ (1000 : Int32)) (fun q60 => ?_) (fun q60 => ?_)
            · replace h := ite_t h q60
              refine em_f (c := x2 = (763 : Int32)) (fun q61 => ?_) (fun q61 => ?_)
              · replace h := ite_f h q61
                exact (fb_Mod_operator_413 o0  h).trans F
              · replace h := ite_t h q61
                exact (fb_Mod_operator_413 o0  h).trans F
            · replace h := ite_f h q60
              exact (fb_Mod_operator_413 o0  h).trans F
set_option maxRecDepth 20000 in
set_option maxHeartbeats 4000000 in
theorem fb_Mod_operator_238 {n : Nat} {J : JM} {b : Nat} {r : Int32 × IM} (o0 : b < 102 ∨ 102 + 39 ≤ b)  {x1 : Int32} {x2 : Int32} {I : IM} (h : b_Mod_operator_238 n J  x1 x2 I = some r) : r.2 b = I b := by
  unfold b_Mod_operator_238 at h
  have F : I b = I b := rfl
  refine em_f (c := x1 = (44 : Int32)) (fun q40 => ?_) (fun q40 => ?_)
  · replace h := ite_f h q40
    exact (fb_Mod_operator_271 o0  h).trans F
  · replace h := ite_t h q40
    refine em_f (c := x2 = (760 : Int32)) (fun q41 => ?_) (fun q41 => ?_)
    · replace h := ite_f h q41
      exact (fb_Mod_operator_271 o0  h).trans F
    · replace h := ite_t h q41
      obtain ⟨c42, h⟩ := chk_e h
      obtain ⟨I43, hI43, h⟩ := lt_x h
      replace F := (show I43 b = _ from by first | exact fr_up hI43 (by first | omega | (intro e; subst e; revert o0; decide)) | exact fr_fil hI43 (by omega) | exact fr_cpy hI43 (by omega)).trans F
      obtain ⟨v44, e45, h⟩ := bnd_e h
      replace F := (fr_Mod_step e45 (by first | omega | exact outA o0 (by decide))).trans F
      cases h
      exact F
set_option maxRecDepth 20000 in
set_option maxHeartbeats 4000000 in
theorem fr_Mod_operator {n : Nat} {J : JM} {I : IM} {b : Nat} {r : Int32 × IM}  (h : f_Mod_operator n J I = some r) (o0 : b < 102 ∨ 102 + 39 ≤ b) : r.2 b = I b := by
  unfold f_Mod_operator at h
  have F : I b = I b := rfl
  obtain ⟨v1, e2, h⟩ := bnd_e h
  refine em_t (c := v1 = 0) (fun q3 => ?_) (fun q3 => ?_)
  · replace h := ite_t h q3
    refine em_t (c := (I MO 10 : Int32) = (202 : Int32)) (fun q4 => ?_) (fun q4 => ?_)
    · replace h := ite_t h q4
      exact (fb_Mod_operator_70 o0  h).trans F
    · replace h := ite_f h q4
      refine em_t (c := (I MO 10 : Int32) = (203 : Int32)) (fun q5 => ?_) (fun q5 => ?_)
      · replace h := ite_t h q5
        exact (fb_Mod_operator_70 o0  h).trans F
      · replace h := ite_f h q5
        refine em_t (c := (I MO 10 : Int32) = (204 : Int32)) (fun q6 => ?_) (fun q6 => ?_)
        · replace h := ite_t h q6
          exact (fb_Mod_operator_70 o0  h).trans F
        · replace h := ite_f h q6
          refine em_f (c := ((I MO 10) - 400 : Int32) = (60 : Int32)) (fun q7 => ?_) (fun q7 => ?_)
          · replace h := ite_f h q7
            refine em_f (c := ((I MO 10) - 400 : Int32) = (63 : Int32)) (fun q8 => ?_) (fun q8 => ?_)
            · replace h := ite_f h q8
              obtain ⟨v9, e10, h⟩ := bnd_e h
              replace F := (fr_Mod_endExpression e10 (by first | omega | exact outA o0 (by decide))).trans F
              obtain ⟨v11, e12, h⟩ := bnd_e h
              refine em_f (c := ((I MO 10) - 400 : Int32) = (58 : Int32)) (fun q13 => ?_) (fun q13 => ?_)
              · replace h := ite_f h q13
                exact (fb_Mod_operator_238 o0  h).trans F
              · replace h := ite_t h q13
                refine em_f (c := v11 = (63 : Int32)) (fun q14 => ?_) (fun q14 => ?_)
                · replace h := ite_f h q14
                  exact (fb_Mod_operator_238 o0  h).trans F
                · replace h := ite_t h q14
                  obtain ⟨c15, h⟩ := chk_e h
                  obtain ⟨c16, h⟩ := chk_e h
                  obtain ⟨I17, hI17, h⟩ := lt_x h
                  replace F := (show I17 b = _ from by first | exact fr_up hI17 (by first | omega | (intro e; subst e; revert o0; decide)) | exact fr_fil hI17 (by omega) | exact fr_cpy hI17 (by omega)).trans F
                  obtain ⟨c18, h⟩ := chk_e h
                  obtain ⟨I19, hI19, h⟩ := lt_x h
                  replace F := (show I19 b = _ from by first | exact fr_up hI19 (by first | omega | (intro e; subst e; revert o0; decide)) | exact fr_fil hI19 (by omega) | exact fr_cpy hI19 (by omega)).trans F
                  obtain ⟨c20, h⟩ := chk_e h
                  obtain ⟨I21, hI21, h⟩ := lt_x h
                  replace F := (show I21 b = _ from by first | exact fr_up hI21 (by first | omega | (intro e; subst e; revert o0; decide)) | exact fr_fil hI21 (by omega) | exact fr_cpy hI21 (by omega)).trans F
                  obtain ⟨v22, e23, h⟩ := bnd_e h
                  replace F := (fr_Mod_emit e23 (by first | omega | exact outA o0 (by decide))).trans F
                  obtain ⟨v24, e25, h⟩ := bnd_e h
                  replace F := (fr_Mod_step e25 (by first | omega | exact outA o0 (by decide))).trans F
                  cases h
                  exact F
            · replace h := ite_t h q8
              obtain ⟨v26, e27, h⟩ := bnd_e h
              replace F := (fr_Mod_endParts e27 (by first | omega | exact outA o0 (by decide))).trans F
              obtain ⟨v28, e29, h⟩ := bnd_e h
              replace F := (fr_Mod_push e29 (by first | omega | exact outA o0 (by decide))).trans F
              obtain ⟨v30, e31, h⟩ := bnd_e h
              replace F := (fr_Mod_emit e31 (by first | omega | exact outA o0 (by decide))).trans F
              obtain ⟨v32, e33, h⟩ := bnd_e h
              replace F := (fr_Mod_step e33 (by first | omega | exact outA o0 (by decide))).trans F
              cases h
              exact F
          · replace h := ite_t h q7
            exact (fb_Mod_operator_70 o0  h).trans F
  · replace h := ite_f h q3
    obtain ⟨v34, e35, h⟩ := bnd_e h
    replace F := (fr_Mod_endSum e35 (by first | omega | exact outA o0 (by decide))).trans F
    obtain ⟨v36, e37, h⟩ := bnd_e h
    replace F := (fr_Mod_push e37 (by first | omega | exact outA o0 (by decide))).trans F
    obtain ⟨v38, e39, h⟩ := bnd_e h
    replace F := (fr_Mod_step e39 (by first | omega | exact outA o0 (by decide))).trans F
    cases h
    exact F
set_option maxRecDepth 20000 in
set_option maxHeartbeats 4000000 in
theorem fb_Mod_expression_52 {n : Nat} {J : JM} {b : Nat} {r : IM} (o0 : b < 102 ∨ 102 + 39 ≤ b)   {I : IM} (h : b_Mod_expression_52 n J   I = some r) : r b = I b := by
  unfold b_Mod_expression_52 at h
  have F : I b = I b := rfl
  cases h
  exact F
set_option maxRecDepth 20000 in
set_option maxHeartbeats 4000000 in
theorem fl_Mod_expression_12 {n : Nat} {J : JM} {b : Nat} {r : IM} (o0 : b < 102 ∨ 102 + 39 ≤ b)  : ∀ (f : Nat) (x1 : Int32) (I : IM), l_Mod_expression_12 n J  f x1 I = some r → r b = I b
  | 0, _, _, h => by cases h
  | f + 1, x1, I, h => by
    have ih := fl_Mod_expression_12 (b := b) (r := r) (n := n)  (J := J) o0 f
    rw [l_Mod_expression_12] at h
    have F : I b = I b := rfl
    refine em_t (c := x1 ≤ 0) (fun q3 => ?_) (fun q3 => ?_)
    · replace h := ite_t h q3
      exact (fb_Mod_expression_52 o0  h).trans F
    · replace h := ite_f h q3
      refine em_t (c := 0 ≤ (I MO 14 : Int32)) (fun q4 => ?_) (fun q4 => ?_)
      · replace h := ite_t h q4
        exact (fb_Mod_expression_52 o0  h).trans F
      · replace h := ite_f h q4
        refine em_f (c := x1 = (1 : Int32)) (fun q5 => ?_) (fun q5 => ?_)
        · replace h := ite_f h q5
          obtain ⟨v6, e7, h⟩ := bnd_e h
          replace F := (fr_Mod_operator e7 (by first | omega | exact outA o0 (by decide))).trans F
          exact (ih _ _ h).trans F
        · replace h := ite_t h q5
          obtain ⟨v8, e9, h⟩ := bnd_e h
          replace F := (fr_Mod_operand e9 (by first | omega | exact outA o0 (by decide))).trans F
          exact (ih _ _ h).trans F
set_option maxRecDepth 20000 in
set_option maxHeartbeats 4000000 in
theorem fr_Mod_expression {n : Nat} {J : JM} {I : IM} {b : Nat} {r : IM}  (h : f_Mod_expression n J I = some r) (o0 : b < 102 ∨ 102 + 39 ≤ b) : r b = I b := by
  unfold f_Mod_expression at h
  have F : I b = I b := rfl
  obtain ⟨I1, hI1, h⟩ := lt_x h
  replace F := (show I1 b = _ from by first | exact fr_up hI1 (by first | omega | (intro e; subst e; revert o0; decide)) | exact fr_fil hI1 (by omega) | exact fr_cpy hI1 (by omega)).trans F
  obtain ⟨I2, hI2, h⟩ := lt_x h
  replace F := (show I2 b = _ from by first | exact fr_up hI2 (by first | omega | (intro e; subst e; revert o0; decide)) | exact fr_fil hI2 (by omega) | exact fr_cpy hI2 (by omega)).trans F
  exact (fl_Mod_expression_12 o0  _ _ _ h).trans F
set_option maxRecDepth 20000 in
set_option maxHeartbeats 4000000 in
theorem fb_Mod_statement_34 {n : Nat} {J : JM} {b : Nat} {r : IM} (o0 : b < 102 ∨ 102 + 39 ≤ b)   {I : IM} (h : b_Mod_statement_34 n J   I = some r) : r b = I b := by
  unfold b_Mod_statement_34 at h
  have F : I b = I b := rfl
  obtain ⟨v25, e26, h⟩ := bnd_e h
  replace F := (fr_Mod_fail e26 (by first | omega | exact outA o0 (by decide))).trans F
  cases h
  exact F
set_option maxRecDepth 20000 in
set_option maxHeartbeats 4000000 in
theorem fb_Mod_statement_102 {n : Nat} {J : JM} {b : Nat} {r : IM} (o0 : b < 102 ∨ 102 + 39 ≤ b)   {I : IM} (h : b_Mod_statement_102 n J   I = some r) : r b = I b := by
  unfold b_Mod_statement_102 at h
  have F : I b = I b := rfl
  obtain ⟨v20, e21, h⟩ := bnd_e h
  replace F := (fr_Mod_need e21 (by first | omega | exact outA o0 (by decide))).trans F
  obtain ⟨c22, h⟩ := chk_e h
  obtain ⟨I23, hI23, h⟩ := lt_x h
  replace F := (show I23 b = _ from by first | exact fr_up hI23 (by first | omega | (intro e; subst e; revert o0; decide)) | exact fr_fil hI23 (by omega) | exact fr_cpy hI23 (by omega)).trans F
  obtain ⟨I24, hI24, h⟩ := lt_x h
  replace F := (show I24 b = _ from by first | exact fr_up hI24 (by first | omega | (intro e; subst e; revert o0; decide)) | exact fr_fil hI24 (by omega) | exact fr_cpy hI24 (by omega)).trans F
  cases h
  exact F
set_option maxRecDepth 20000 in
set_option maxHeartbeats 4000000 in
theorem fb_Mod_statement_91 {n : Nat} {J : JM} {b : Nat} {r : IM} (o0 : b < 102 ∨ 102 + 39 ≤ b)   {I : IM} (h : b_Mod_statement_91 n J   I = some r) : r b = I b := by
  unfold b_Mod_statement_91 at h
  have F : I b = I b := rfl
  refine em_t (c := 0 ≤ (I MO 14 : Int32)) (fun q17 => ?_) (fun q17 => ?_)
  · replace h := ite_t h q17
    exact (fb_Mod_statement_102 o0  h).trans F
  · replace h := ite_f h q17
    obtain ⟨v18, e19, h⟩ := bnd_e h
    replace F := (fr_Mod_expression e19 (by first | omega | exact outA o0 (by decide))).trans F
    exact (fb_Mod_statement_102 o0  h).trans F
set_option maxRecDepth 20000 in
set_option maxHeartbeats 4000000 in
theorem fb_Mod_statement_39 {n : Nat} {J : JM} {b : Nat} {r : IM} (o0 : b < 102 ∨ 102 + 39 ≤ b)  {x2 : Int32} {I : IM} (h : b_Mod_statement_39 n J  x2 I = some r) : r b = I b := by
  unfold b_Mod_statement_39 at h
  have F : I b = I b := rfl
  obtain ⟨c6, h⟩ := chk_e h
  obtain ⟨I7, hI7, h⟩ := lt_x h
  replace F := (show I7 b = _ from by first | exact fr_up hI7 (by first | omega | (intro e; subst e; revert o0; decide)) | exact fr_fil hI7 (by omega) | exact fr_cpy hI7 (by omega)).trans F
  obtain ⟨c8, h⟩ := chk_e h
  obtain ⟨I9, hI9, h⟩ := lt_x h
  replace F := (show I9 b = _ from by first | exact fr_up hI9 (by first | omega | (intro e; subst e; revert o0; decide)) | exact fr_fil hI9 (by omega) | exact fr_cpy hI9 (by omega)).trans F
  obtain ⟨c10, h⟩ := chk_e h
  obtain ⟨I11, hI11, h⟩ := lt_x h
  replace F := (show I11 b = _ from by first | exact fr_up hI11 (by first | omega | (intro e; subst e; revert o0; decide)) | exact fr_fil hI11 (by omega) | exact fr_cpy hI11 (by omega)).trans F
  obtain ⟨v12, e13, h⟩ := bnd_e h
  replace F := (fr_Mod_advance e13 (by first | omega | exact outA o0 (by decide))).trans F
  refine em_t (c := x2 ≤ (50 : Int32)) (fun q14 => ?_) (fun q14 => ?_)
  · replace h := ite_t h q14
    exact (fb_Mod_statement_91 o0  h).trans F
  · replace h := ite_f h q14
    obtain ⟨v15, e16, h⟩ := bnd_e h
    replace F := (fr_Mod_need e16 (by first | omega | exact outA o0 (by decide))).trans F
    exact (fb_Mod_statement_91 o0  h).trans F
set_option maxRecDepth 20000 in
set_option maxHeartbeats 4000000 in
theorem fr_Mod_statement {n : Nat} {J : JM} {x1 : Int32} {I : IM} {b : Nat} {r : IM}  (h : f_Mod_statement n J x1 I = some r) (o0 : b < 102 ∨ 102 + 39 ≤ b) : r b = I b := by
  unfold f_Mod_statement at h
  have F : I b = I b := rfl
  obtain ⟨v1, e2, h⟩ := bnd_e h
  refine em_t (c := v1 = 0) (fun q3 => ?_) (fun q3 => ?_)
  · replace h := ite_t h q3
    exact (fb_Mod_statement_34 o0  h).trans F
  · replace h := ite_f h q3
    refine em_t (c := (I MO 10 : Int32) ≤ (50 : Int32)) (fun q4 => ?_) (fun q4 => ?_)
    · replace h := ite_t h q4
      exact (fb_Mod_statement_39 o0  h).trans F
    · replace h := ite_f h q4
      refine em_f (c := (((x1 : Int32) >>> (((I MO 10) - 50 : Int32) &&& 31)) &&& 1 : Int32) = (1 : Int32)) (fun q5 => ?_) (fun q5 => ?_)
      · replace h := ite_f h q5
        exact (fb_Mod_statement_39 o0  h).trans F
      · replace h := ite_t h q5
        exact (fb_Mod_statement_34 o0  h).trans F
set_option maxRecDepth 20000 in
set_option maxHeartbeats 4000000 in
theorem fb_Mod_heads_38 {n : Nat} {J : JM} {b : Nat} {r : IM} (o0 : b < 102 ∨ 102 + 39 ≤ b)   {I : IM} (h : b_Mod_heads_38 n J   I = some r) : r b = I b := by
  unfold b_Mod_heads_38 at h
  have F : I b = I b := rfl
  obtain ⟨v16, e17, h⟩ := bnd_e h
  replace F := (fr_Mod_fail e17 (by first | omega | exact outA o0 (by decide))).trans F
  cases h
  exact F
set_option maxRecDepth 20000 in
set_option maxHeartbeats 4000000 in
theorem fb_Mod_heads_78 {n : Nat} {J : JM} {b : Nat} {r : IM} (o0 : b < 102 ∨ 102 + 39 ≤ b)   {I : IM} (h : b_Mod_heads_78 n J   I = some r) : r b = I b := by
  unfold b_Mod_heads_78 at h
  have F : I b = I b := rfl
  obtain ⟨v18, e19, h⟩ := bnd_e h
  replace F := (fr_Mod_need e19 (by first | omega | exact outA o0 (by decide))).trans F
  cases h
  exact F
set_option maxRecDepth 20000 in
set_option maxHeartbeats 4000000 in
theorem fl_Mod_heads_2 {n : Nat} {J : JM} {b : Nat} {r : IM} (o0 : b < 102 ∨ 102 + 39 ≤ b)  : ∀ (f : Nat) (x1 : Int32) (I : IM), l_Mod_heads_2 n J  f x1 I = some r → r b = I b
  | 0, _, _, h => by cases h
  | f + 1, x1, I, h => by
    have ih := fl_Mod_heads_2 (b := b) (r := r) (n := n)  (J := J) o0 f
    rw [l_Mod_heads_2] at h
    have F : I b = I b := rfl
    refine em_t (c := x1 = 0) (fun q1 => ?_) (fun q1 => ?_)
    · replace h := ite_t h q1
      exact (fb_Mod_heads_78 o0  h).trans F
    · replace h := ite_f h q1
      refine em_t (c := 0 ≤ (I MO 14 : Int32)) (fun q2 => ?_) (fun q2 => ?_)
      · replace h := ite_t h q2
        exact (fb_Mod_heads_78 o0  h).trans F
      · replace h := ite_f h q2
        obtain ⟨v3, e4, h⟩ := bnd_e h
        refine em_t (c := v3 = 0) (fun q5 => ?_) (fun q5 => ?_)
        · replace h := ite_t h q5
          exact (fb_Mod_heads_38 o0  h).trans F
        · replace h := ite_f h q5
          obtain ⟨c6, h⟩ := chk_e h
          refine em_t (c := (I A_ruleOf (I MO 10 : Int32).toNatClampNeg : Int32) < 0) (fun q7 => ?_) (fun q7 => ?_)
          · replace h := ite_t h q7
            obtain ⟨I8, hI8, h⟩ := lt_x h
            replace F := (show I8 b = _ from by first | exact fr_up hI8 (by first | omega | (intro e; subst e; revert o0; decide)) | exact fr_fil hI8 (by omega) | exact fr_cpy hI8 (by omega)).trans F
            obtain ⟨v9, e10, h⟩ := bnd_e h
            replace F := (fr_Mod_advance e10 (by first | omega | exact outA o0 (by decide))).trans F
            obtain ⟨v11, e12, h⟩ := bnd_e h
            refine em_t (c := v11 = 0) (fun q13 => ?_) (fun q13 => ?_)
            · replace h := ite_t h q13
              exact (ih _ _ h).trans F
            · replace h := ite_f h q13
              obtain ⟨v14, e15, h⟩ := bnd_e h
              replace F := (fr_Mod_advance e15 (by first | omega | exact outA o0 (by decide))).trans F
              exact (ih _ _ h).trans F
          · replace h := ite_f h q7
            exact (fb_Mod_heads_38 o0  h).trans F
set_option maxRecDepth 20000 in
set_option maxHeartbeats 4000000 in
theorem fr_Mod_heads {n : Nat} {J : JM} {I : IM} {b : Nat} {r : IM}  (h : f_Mod_heads n J I = some r) (o0 : b < 102 ∨ 102 + 39 ≤ b) : r b = I b := by
  unfold f_Mod_heads at h
  have F : I b = I b := rfl
  exact (fl_Mod_heads_2 o0  _ _ _ h).trans F
set_option maxRecDepth 20000 in
set_option maxHeartbeats 4000000 in
theorem fb_Mod_readPolicy_160 {n : Nat} {J : JM} {b : Nat} {r : IM} (o0 : b < 102 ∨ 102 + 39 ≤ b) {H50 : IM → Option (IM)} (hH50 : ∀  (I : IM), H50  I = some r → r b = I b)  {I : IM} (h : b_Mod_readPolicy_160 n J H50  I = some r) : r b = I b := by
  unfold b_Mod_readPolicy_160 at h
  have F : I b = I b := rfl
  obtain ⟨c33, h⟩ := chk_e h
  obtain ⟨I34, hI34, h⟩ := lt_x h
  replace F := (show I34 b = _ from by first | exact fr_up hI34 (by first | omega | (intro e; subst e; revert o0; decide)) | exact fr_fil hI34 (by omega) | exact fr_cpy hI34 (by omega)).trans F
  obtain ⟨I35, hI35, h⟩ := lt_x h
  replace F := (show I35 b = _ from by first | exact fr_up hI35 (by first | omega | (intro e; subst e; revert o0; decide)) | exact fr_fil hI35 (by omega) | exact fr_cpy hI35 (by omega)).trans F
  exact (hH50 _ h).trans F
set_option maxRecDepth 20000 in
set_option maxHeartbeats 4000000 in
theorem fl_Mod_readPolicy_93 {n : Nat} {J : JM} {b : Nat} {r : IM} (o0 : b < 102 ∨ 102 + 39 ≤ b) {H50 : IM → Option (IM)} (hH50 : ∀  (I : IM), H50  I = some r → r b = I b) : ∀ (f : Nat) (x1 : Int32) (I : IM), l_Mod_readPolicy_93 n J H50 f x1 I = some r → r b = I b
  | 0, _, _, h => by cases h
  | f + 1, x1, I, h => by
    have ih := fl_Mod_readPolicy_93 (b := b) (r := r) (n := n)  (J := J) o0 hH50 f
    rw [l_Mod_readPolicy_93] at h
    have F : I b = I b := rfl
    refine em_t (c := 0 ≤ (I MO 14 : Int32)) (fun q21 => ?_) (fun q21 => ?_)
    · replace h := ite_t h q21
      exact (fb_Mod_readPolicy_160 o0 hH50 h).trans F
    · replace h := ite_f h q21
      obtain ⟨v22, e23, h⟩ := bnd_e h
      refine em_f (c := v22 = 0) (fun q24 => ?_) (fun q24 => ?_)
      · replace h := ite_f h q24
        exact (fb_Mod_readPolicy_160 o0 hH50 h).trans F
      · replace h := ite_t h q24
        obtain ⟨v25, e26, h⟩ := bnd_e h
        refine em_f (c := v25 = 0) (fun q27 => ?_) (fun q27 => ?_)
        · replace h := ite_f h q27
          exact (fb_Mod_readPolicy_160 o0 hH50 h).trans F
        · replace h := ite_t h q27
          obtain ⟨v28, e29, h⟩ := bnd_e h
          obtain ⟨v31, e32, h⟩ := bnd_e h
          replace F := (fr_Mod_statement e32 (by first | omega | exact outA o0 (by decide))).trans F
          exact (ih _ _ h).trans F
set_option maxRecDepth 20000 in
set_option maxHeartbeats 4000000 in
theorem fb_Mod_readPolicy_186 {n : Nat} {J : JM} {b : Nat} {r : IM} (o0 : b < 102 ∨ 102 + 39 ≤ b)   {I : IM} (h : b_Mod_readPolicy_186 n J   I = some r) : r b = I b := by
  unfold b_Mod_readPolicy_186 at h
  have F : I b = I b := rfl
  cases h
  exact F
set_option maxRecDepth 20000 in
set_option maxHeartbeats 4000000 in
theorem fl_Mod_readPolicy_50 {n : Nat} {J : JM} {b : Nat} {r : IM} (o0 : b < 102 ∨ 102 + 39 ≤ b)  : ∀ (f : Nat)  (I : IM), l_Mod_readPolicy_50 n J  f  I = some r → r b = I b
  | 0, _, h => by cases h
  | f + 1, I, h => by
    have ih := fl_Mod_readPolicy_50 (b := b) (r := r) (n := n)  (J := J) o0 f
    rw [l_Mod_readPolicy_50] at h
    have F : I b = I b := rfl
    refine em_t (c := 0 ≤ (I MO 14 : Int32)) (fun q11 => ?_) (fun q11 => ?_)
    · replace h := ite_t h q11
      exact (fb_Mod_readPolicy_186 o0  h).trans F
    · replace h := ite_f h q11
      obtain ⟨v12, e13, h⟩ := bnd_e h
      refine em_f (c := v12 = 0) (fun q14 => ?_) (fun q14 => ?_)
      · replace h := ite_f h q14
        exact (fb_Mod_readPolicy_186 o0  h).trans F
      · replace h := ite_t h q14
        obtain ⟨c15, h⟩ := chk_e h
        obtain ⟨I16, hI16, h⟩ := lt_x h
        replace F := (show I16 b = _ from by first | exact fr_up hI16 (by first | omega | (intro e; subst e; revert o0; decide)) | exact fr_fil hI16 (by omega) | exact fr_cpy hI16 (by omega)).trans F
        obtain ⟨c17, h⟩ := chk_e h
        obtain ⟨I18, hI18, h⟩ := lt_x h
        replace F := (show I18 b = _ from by first | exact fr_up hI18 (by first | omega | (intro e; subst e; revert o0; decide)) | exact fr_fil hI18 (by omega) | exact fr_cpy hI18 (by omega)).trans F
        obtain ⟨v19, e20, h⟩ := bnd_e h
        replace F := (fr_Mod_heads e20 (by first | omega | exact outA o0 (by decide))).trans F
        exact (fl_Mod_readPolicy_93 o0 ih _ _ _ h).trans F
set_option maxRecDepth 20000 in
set_option maxHeartbeats 4000000 in
theorem fl_Mod_readPolicy_27 {n : Nat} {J : JM} {b : Nat} {r : IM} (o0 : b < 102 ∨ 102 + 39 ≤ b)  : ∀ (f : Nat) (x1 : Int32) (I : IM), l_Mod_readPolicy_27 n J  f x1 I = some r → r b = I b
  | 0, _, _, h => by cases h
  | f + 1, x1, I, h => by
    have ih := fl_Mod_readPolicy_27 (b := b) (r := r) (n := n)  (J := J) o0 f
    rw [l_Mod_readPolicy_27] at h
    have F : I b = I b := rfl
    refine em_t (c := (22 : Int32) ≤ x1) (fun q6 => ?_) (fun q6 => ?_)
    · replace h := ite_t h q6
      obtain ⟨v7, e8, h⟩ := bnd_e h
      replace F := (fr_Mod_advance e8 (by first | omega | exact outA o0 (by decide))).trans F
      exact (fl_Mod_readPolicy_50 o0  _ _ h).trans F
    · replace h := ite_f h q6
      obtain ⟨c9, h⟩ := chk_e h
      obtain ⟨I10, hI10, h⟩ := lt_x h
      replace F := (show I10 b = _ from by first | exact fr_up hI10 (by first | omega | (intro e; subst e; revert o0; decide)) | exact fr_fil hI10 (by omega) | exact fr_cpy hI10 (by omega)).trans F
      exact (ih _ _ h).trans F
set_option maxRecDepth 20000 in
set_option maxHeartbeats 4000000 in
theorem fr_Mod_readPolicy {n : Nat} {J : JM} {I : IM} {b : Nat} {r : IM}  (h : f_Mod_readPolicy n J I = some r) (o0 : b < 102 ∨ 102 + 39 ≤ b) : r b = I b := by
  unfold f_Mod_readPolicy at h
  have F : I b = I b := rfl
  obtain ⟨I1, hI1, h⟩ := lt_x h
  replace F := (show I1 b = _ from by first | exact fr_up hI1 (by first | omega | (intro e; subst e; revert o0; decide)) | exact fr_fil hI1 (by omega) | exact fr_cpy hI1 (by omega)).trans F
  obtain ⟨I2, hI2, h⟩ := lt_x h
  replace F := (show I2 b = _ from by first | exact fr_up hI2 (by first | omega | (intro e; subst e; revert o0; decide)) | exact fr_fil hI2 (by omega) | exact fr_cpy hI2 (by omega)).trans F
  obtain ⟨I3, hI3, h⟩ := lt_x h
  replace F := (show I3 b = _ from by first | exact fr_up hI3 (by first | omega | (intro e; subst e; revert o0; decide)) | exact fr_fil hI3 (by omega) | exact fr_cpy hI3 (by omega)).trans F
  obtain ⟨I4, hI4, h⟩ := lt_x h
  replace F := (show I4 b = _ from by first | exact fr_up hI4 (by first | omega | (intro e; subst e; revert o0; decide)) | exact fr_fil hI4 (by omega) | exact fr_cpy hI4 (by omega)).trans F
  obtain ⟨I5, hI5, h⟩ := lt_x h
  replace F := (show I5 b = _ from by first | exact fr_up hI5 (by first | omega | (intro e; subst e; revert o0; decide)) | exact fr_fil hI5 (by omega) | exact fr_cpy hI5 (by omega)).trans F
  exact (fl_Mod_readPolicy_27 o0  _ _ _ h).trans F
set_option maxRecDepth 20000 in
set_option maxHeartbeats 4000000 in
theorem fl_Mod_swapTexts_2 {n : Nat} {b : Nat} {r : IM} (o0 : b < 102 ∨ 102 + 39 ≤ b)  : ∀ (f : Nat) (x1 : Int32) (I : IM), l_Mod_swapTexts_2 n  f x1 I = some r → r b = I b
  | 0, _, _, h => by cases h
  | f + 1, x1, I, h => by
    have ih := fl_Mod_swapTexts_2 (b := b) (r := r) (n := n)   o0 f
    rw [l_Mod_swapTexts_2] at h
    have F : I b = I b := rfl
    refine em_t (c := (900 : Int32) ≤ x1) (fun q1 => ?_) (fun q1 => ?_)
    · replace h := ite_t h q1
      obtain ⟨I2, hI2, h⟩ := lt_x h
      replace F := (show I2 b = _ from by first | exact fr_up hI2 (by first | omega | (intro e; subst e; revert o0; decide)) | exact fr_fil hI2 (by omega) | exact fr_cpy hI2 (by omega)).trans F
      obtain ⟨I3, hI3, h⟩ := lt_x h
      replace F := (show I3 b = _ from by first | exact fr_up hI3 (by first | omega | (intro e; subst e; revert o0; decide)) | exact fr_fil hI3 (by omega) | exact fr_cpy hI3 (by omega)).trans F
      cases h
      exact F
    · replace h := ite_f h q1
      obtain ⟨c4, h⟩ := chk_e h
      obtain ⟨I5, hI5, h⟩ := lt_x h
      replace F := (show I5 b = _ from by first | exact fr_up hI5 (by first | omega | (intro e; subst e; revert o0; decide)) | exact fr_fil hI5 (by omega) | exact fr_cpy hI5 (by omega)).trans F
      obtain ⟨I6, hI6, h⟩ := lt_x h
      replace F := (show I6 b = _ from by first | exact fr_up hI6 (by first | omega | (intro e; subst e; revert o0; decide)) | exact fr_fil hI6 (by omega) | exact fr_cpy hI6 (by omega)).trans F
      exact (ih _ _ h).trans F
set_option maxRecDepth 20000 in
set_option maxHeartbeats 4000000 in
theorem fr_Mod_swapTexts {n : Nat} {I : IM} {b : Nat} {r : IM}  (h : f_Mod_swapTexts n I = some r) (o0 : b < 102 ∨ 102 + 39 ≤ b) : r b = I b := by
  unfold f_Mod_swapTexts at h
  have F : I b = I b := rfl
  exact (fl_Mod_swapTexts_2 o0  _ _ _ h).trans F
set_option maxRecDepth 20000 in
set_option maxHeartbeats 4000000 in
theorem fb_Mod_policy_135 {n : Nat} {J : JM} {b : Nat} {r : Int32 × IM} (o0 : b < 102 ∨ 102 + 39 ≤ b) {H90 : Int32 → IM → Option (Int32 × IM)} (hH90 : ∀ (x2 : Int32) (I : IM), H90 x2 I = some r → r.2 b = I b) {x2 : Int32} {y2 : Int32} {y1 : Int32} {I : IM} (h : b_Mod_policy_135 n J H90 x2 y2 y1 I = some r) : r.2 b = I b := by
  unfold b_Mod_policy_135 at h
  have F : I b = I b := rfl
  obtain ⟨c25, h⟩ := chk_e h
  obtain ⟨I26, hI26, h⟩ := lt_x h
  replace F := (show I26 b = _ from by first | exact fr_up hI26 (by first | omega | (intro e; subst e; revert o0; decide)) | exact fr_fil hI26 (by omega) | exact fr_cpy hI26 (by omega)).trans F
  exact (hH90 _ _ h).trans F
set_option maxRecDepth 20000 in
set_option maxHeartbeats 4000000 in
theorem fb_Mod_policy_125 {n : Nat} {J : JM} {b : Nat} {r : Int32 × IM} (o0 : b < 102 ∨ 102 + 39 ≤ b) {H90 : Int32 → IM → Option (Int32 × IM)} (hH90 : ∀ (x2 : Int32) (I : IM), H90 x2 I = some r → r.2 b = I b) {x2 : Int32} {y1 : Int32} {I : IM} (h : b_Mod_policy_125 n J H90 x2 y1 I = some r) : r.2 b = I b := by
  unfold b_Mod_policy_125 at h
  have F : I b = I b := rfl
  exact (fb_Mod_policy_135 o0 hH90 h).trans F
set_option maxRecDepth 20000 in
set_option maxHeartbeats 4000000 in
theorem fl_Mod_policy_90 {n : Nat} {J : JM} {b : Nat} {r : Int32 × IM} (o0 : b < 102 ∨ 102 + 39 ≤ b)  : ∀ (f : Nat) (x2 : Int32) (I : IM), l_Mod_policy_90 n J  f x2 I = some r → r.2 b = I b
  | 0, _, _, h => by cases h
  | f + 1, x2, I, h => by
    have ih := fl_Mod_policy_90 (b := b) (r := r) (n := n)  (J := J) o0 f
    rw [l_Mod_policy_90] at h
    have F : I b = I b := rfl
    refine em_t (c := (16 : Int32) ≤ x2) (fun q19 => ?_) (fun q19 => ?_)
    · replace h := ite_t h q19
      cases h
      exact F
    · replace h := ite_f h q19
      refine em_t (c := x2 = (9 : Int32)) (fun q20 => ?_) (fun q20 => ?_)
      · replace h := ite_t h q20
        exact (fb_Mod_policy_125 o0 ih h).trans F
      · replace h := ite_f h q20
        refine em_t (c := x2 = (10 : Int32)) (fun q21 => ?_) (fun q21 => ?_)
        · replace h := ite_t h q21
          exact (fb_Mod_policy_125 o0 ih h).trans F
        · replace h := ite_f h q21
          refine em_t (c := x2 = (12 : Int32)) (fun q22 => ?_) (fun q22 => ?_)
          · replace h := ite_t h q22
            exact (fb_Mod_policy_125 o0 ih h).trans F
          · replace h := ite_f h q22
            refine em_f (c := x2 = (13 : Int32)) (fun q23 => ?_) (fun q23 => ?_)
            · replace h := ite_f h q23
              obtain ⟨c24, h⟩ := chk_e h
              exact (fb_Mod_policy_135 o0 ih h).trans F
            · replace h := ite_t h q23
              exact (fb_Mod_policy_125 o0 ih h).trans F
set_option maxRecDepth 20000 in
set_option maxHeartbeats 4000000 in
theorem fl_Mod_policy_34 {n : Nat} {J : JM} {b : Nat} {r : Int32 × IM} (o0 : b < 102 ∨ 102 + 39 ≤ b)  : ∀ (f : Nat) (x2 : Int32) (I : IM), l_Mod_policy_34 n J  f x2 I = some r → r.2 b = I b
  | 0, _, _, h => by cases h
  | f + 1, x2, I, h => by
    have ih := fl_Mod_policy_34 (b := b) (r := r) (n := n)  (J := J) o0 f
    rw [l_Mod_policy_34] at h
    have F : I b = I b := rfl
    refine em_t (c := (900 : Int32) ≤ x2) (fun q11 => ?_) (fun q11 => ?_)
    · replace h := ite_t h q11
      obtain ⟨I12, hI12, h⟩ := lt_x h
      replace F := (show I12 b = _ from by first | exact fr_up hI12 (by first | omega | (intro e; subst e; revert o0; decide)) | exact fr_fil hI12 (by omega) | exact fr_cpy hI12 (by omega)).trans F
      obtain ⟨I13, hI13, h⟩ := lt_x h
      replace F := (show I13 b = _ from by first | exact fr_up hI13 (by first | omega | (intro e; subst e; revert o0; decide)) | exact fr_fil hI13 (by omega) | exact fr_cpy hI13 (by omega)).trans F
      obtain ⟨I14, hI14, h⟩ := lt_x h
      replace F := (show I14 b = _ from by first | exact fr_up hI14 (by first | omega | (intro e; subst e; revert o0; decide)) | exact fr_fil hI14 (by omega) | exact fr_cpy hI14 (by omega)).trans F
      obtain ⟨I15, hI15, h⟩ := lt_x h
      replace F := (show I15 b = _ from by first | exact fr_up hI15 (by first | omega | (intro e; subst e; revert o0; decide)) | exact fr_fil hI15 (by omega) | exact fr_cpy hI15 (by omega)).trans F
      obtain ⟨I16, hI16, h⟩ := lt_x h
      replace F := (show I16 b = _ from by first | exact fr_up hI16 (by first | omega | (intro e; subst e; revert o0; decide)) | exact fr_fil hI16 (by omega) | exact fr_cpy hI16 (by omega)).trans F
      exact (fl_Mod_policy_90 o0  _ _ _ h).trans F
    · replace h := ite_f h q11
      obtain ⟨c17, h⟩ := chk_e h
      obtain ⟨I18, hI18, h⟩ := lt_x h
      replace F := (show I18 b = _ from by first | exact fr_up hI18 (by first | omega | (intro e; subst e; revert o0; decide)) | exact fr_fil hI18 (by omega) | exact fr_cpy hI18 (by omega)).trans F
      exact (ih _ _ h).trans F
set_option maxRecDepth 20000 in
set_option maxHeartbeats 4000000 in
theorem fr_Mod_policy {n : Nat} {J : JM} {I : IM} {b : Nat} {r : Int32 × IM}  (h : f_Mod_policy n J I = some r) (o0 : b < 102 ∨ 102 + 39 ≤ b) : r.2 b = I b := by
  unfold f_Mod_policy at h
  have F : I b = I b := rfl
  obtain ⟨I1, hI1, h⟩ := lt_x h
  replace F := (show I1 b = _ from by first | exact fr_up hI1 (by first | omega | (intro e; subst e; revert o0; decide)) | exact fr_fil hI1 (by omega) | exact fr_cpy hI1 (by omega)).trans F
  obtain ⟨v2, e3, h⟩ := bnd_e h
  replace F := (fr_Mod_readPolicy e3 (by first | omega | exact outA o0 (by decide))).trans F
  refine em_t (c := (v2 MO 14 : Int32) < 0) (fun q4 => ?_) (fun q4 => ?_)
  · replace h := ite_t h q4
    exact (fl_Mod_policy_34 o0  _ _ _ h).trans F
  · replace h := ite_f h q4
    obtain ⟨v5, e6, h⟩ := bnd_e h
    replace F := (fr_Mod_swapTexts e6 (by first | omega | exact outA o0 (by decide))).trans F
    obtain ⟨v7, e8, h⟩ := bnd_e h
    replace F := (fr_Mod_readPolicy e8 (by first | omega | exact outA o0 (by decide))).trans F
    obtain ⟨v9, e10, h⟩ := bnd_e h
    replace F := (fr_Mod_swapTexts e10 (by first | omega | exact outA o0 (by decide))).trans F
    cases h
    exact F
set_option maxRecDepth 20000 in
set_option maxHeartbeats 4000000 in
theorem fb_Mod_names_49 {b : Nat} {r : Int32 × IM} (o0 : b < 102 ∨ 102 + 39 ≤ b)  {y0 : Int32} {I : IM} (h : b_Mod_names_49   y0 I = some r) : r.2 b = I b := by
  unfold b_Mod_names_49 at h
  have F : I b = I b := rfl
  cases h
  exact F
set_option maxRecDepth 20000 in
set_option maxHeartbeats 4000000 in
theorem fr_Mod_names {x1 : Int32} {I : IM} {b : Nat} {r : Int32 × IM}  (h : f_Mod_names x1 I = some r) (o0 : b < 102 ∨ 102 + 39 ≤ b) : r.2 b = I b := by
  unfold f_Mod_names at h
  have F : I b = I b := rfl
  obtain ⟨v1, e2, h⟩ := bnd_e h
  obtain ⟨v4, e5, h⟩ := bnd_e h
  replace F := (fr_Mod_refuse e5 (by first | omega | exact outA o0 (by decide))).trans F
  refine em_t (c := (v4.1 : Int32) = 0) (fun q6 => ?_) (fun q6 => ?_)
  · replace h := ite_t h q6
    obtain ⟨c7, h⟩ := chk_e h
    refine em_t (c := 0 ≤ (v4.2 A_ruleOf x1.toNatClampNeg : Int32)) (fun q8 => ?_) (fun q8 => ?_)
    · replace h := ite_t h q8
      obtain ⟨c9, h⟩ := chk_e h
      exact (fb_Mod_names_49 o0  h).trans F
    · replace h := ite_f h q8
      exact (fb_Mod_names_49 o0  h).trans F
  · replace h := ite_f h q6
    cases h
    exact F
set_option maxRecDepth 20000 in
set_option maxHeartbeats 4000000 in
theorem fl_Mod_setUp_173 {n : Nat} {b : Nat} {r : IM} (o0 : b < 102 ∨ 102 + 39 ≤ b)  : ∀ (f : Nat) (x2 : Int32) (I : IM), l_Mod_setUp_173 n  f x2 I = some r → r b = I b
  | 0, _, _, h => by cases h
  | f + 1, x2, I, h => by
    have ih := fl_Mod_setUp_173 (b := b) (r := r) (n := n)   o0 f
    rw [l_Mod_setUp_173] at h
    have F : I b = I b := rfl
    refine em_t (c := (88 : Int32) ≤ x2) (fun q30 => ?_) (fun q30 => ?_)
    · replace h := ite_t h q30
      cases h
      exact F
    · replace h := ite_f h q30
      obtain ⟨c31, h⟩ := chk_e h
      obtain ⟨I32, hI32, h⟩ := lt_x h
      replace F := (show I32 b = _ from by first | exact fr_up hI32 (by first | omega | (intro e; subst e; revert o0; decide)) | exact fr_fil hI32 (by omega) | exact fr_cpy hI32 (by omega)).trans F
      exact (ih _ _ h).trans F
set_option maxRecDepth 20000 in
set_option maxHeartbeats 4000000 in
theorem fl_Mod_setUp_70 {n : Nat} {b : Nat} {r : IM} (o0 : b < 102 ∨ 102 + 39 ≤ b)  : ∀ (f : Nat) (x2 : Int32) (I : IM), l_Mod_setUp_70 n  f x2 I = some r → r b = I b
  | 0, _, _, h => by cases h
  | f + 1, x2, I, h => by
    have ih := fl_Mod_setUp_70 (b := b) (r := r) (n := n)   o0 f
    rw [l_Mod_setUp_70] at h
    have F : I b = I b := rfl
    refine em_t (c := (8 : Int32) ≤ x2) (fun q11 => ?_) (fun q11 => ?_)
    · replace h := ite_t h q11
      obtain ⟨I12, hI12, h⟩ := lt_x h
      replace F := (show I12 b = _ from by first | exact fr_up hI12 (by first | omega | (intro e; subst e; revert o0; decide)) | exact fr_fil hI12 (by omega) | exact fr_cpy hI12 (by omega)).trans F
      obtain ⟨I13, hI13, h⟩ := lt_x h
      replace F := (show I13 b = _ from by first | exact fr_up hI13 (by first | omega | (intro e; subst e; revert o0; decide)) | exact fr_fil hI13 (by omega) | exact fr_cpy hI13 (by omega)).trans F
      obtain ⟨I14, hI14, h⟩ := lt_x h
      replace F := (show I14 b = _ from by first | exact fr_up hI14 (by first | omega | (intro e; subst e; revert o0; decide)) | exact fr_fil hI14 (by omega) | exact fr_cpy hI14 (by omega)).trans F
      obtain ⟨I15, hI15, h⟩ := lt_x h
      replace F := (show I15 b = _ from by first | exact fr_up hI15 (by first | omega | (intro e; subst e; revert o0; decide)) | exact fr_fil hI15 (by omega) | exact fr_cpy hI15 (by omega)).trans F
      obtain ⟨I16, hI16, h⟩ := lt_x h
      replace F := (show I16 b = _ from by first | exact fr_up hI16 (by first | omega | (intro e; subst e; revert o0; decide)) | exact fr_fil hI16 (by omega) | exact fr_cpy hI16 (by omega)).trans F
      obtain ⟨I17, hI17, h⟩ := lt_x h
      replace F := (show I17 b = _ from by first | exact fr_up hI17 (by first | omega | (intro e; subst e; revert o0; decide)) | exact fr_fil hI17 (by omega) | exact fr_cpy hI17 (by omega)).trans F
      obtain ⟨I18, hI18, h⟩ := lt_x h
      replace F := (show I18 b = _ from by first | exact fr_up hI18 (by first | omega | (intro e; subst e; revert o0; decide)) | exact fr_fil hI18 (by omega) | exact fr_cpy hI18 (by omega)).trans F
      obtain ⟨I19, hI19, h⟩ := lt_x h
      replace F := (show I19 b = _ from by first | exact fr_up hI19 (by first | omega | (intro e; subst e; revert o0; decide)) | exact fr_fil hI19 (by omega) | exact fr_cpy hI19 (by omega)).trans F
      obtain ⟨I20, hI20, h⟩ := lt_x h
      replace F := (show I20 b = _ from by first | exact fr_up hI20 (by first | omega | (intro e; subst e; revert o0; decide)) | exact fr_fil hI20 (by omega) | exact fr_cpy hI20 (by omega)).trans F
      obtain ⟨I21, hI21, h⟩ := lt_x h
      replace F := (show I21 b = _ from by first | exact fr_up hI21 (by first | omega | (intro e; subst e; revert o0; decide)) | exact fr_fil hI21 (by omega) | exact fr_cpy hI21 (by omega)).trans F
      obtain ⟨I22, hI22, h⟩ := lt_x h
      replace F := (show I22 b = _ from by first | exact fr_up hI22 (by first | omega | (intro e; subst e; revert o0; decide)) | exact fr_fil hI22 (by omega) | exact fr_cpy hI22 (by omega)).trans F
      obtain ⟨I23, hI23, h⟩ := lt_x h
      replace F := (show I23 b = _ from by first | exact fr_up hI23 (by first | omega | (intro e; subst e; revert o0; decide)) | exact fr_fil hI23 (by omega) | exact fr_cpy hI23 (by omega)).trans F
      obtain ⟨I24, hI24, h⟩ := lt_x h
      replace F := (show I24 b = _ from by first | exact fr_up hI24 (by first | omega | (intro e; subst e; revert o0; decide)) | exact fr_fil hI24 (by omega) | exact fr_cpy hI24 (by omega)).trans F
      obtain ⟨I25, hI25, h⟩ := lt_x h
      replace F := (show I25 b = _ from by first | exact fr_up hI25 (by first | omega | (intro e; subst e; revert o0; decide)) | exact fr_fil hI25 (by omega) | exact fr_cpy hI25 (by omega)).trans F
      obtain ⟨I26, hI26, h⟩ := lt_x h
      replace F := (show I26 b = _ from by first | exact fr_up hI26 (by first | omega | (intro e; subst e; revert o0; decide)) | exact fr_fil hI26 (by omega) | exact fr_cpy hI26 (by omega)).trans F
      exact (fl_Mod_setUp_173 o0  _ _ _ h).trans F
    · replace h := ite_f h q11
      obtain ⟨c27, h⟩ := chk_e h
      obtain ⟨I28, hI28, h⟩ := lt_x h
      replace F := (show I28 b = _ from by first | exact fr_up hI28 (by first | omega | (intro e; subst e; revert o0; decide)) | exact fr_fil hI28 (by omega) | exact fr_cpy hI28 (by omega)).trans F
      obtain ⟨I29, hI29, h⟩ := lt_x h
      replace F := (show I29 b = _ from by first | exact fr_up hI29 (by first | omega | (intro e; subst e; revert o0; decide)) | exact fr_fil hI29 (by omega) | exact fr_cpy hI29 (by omega)).trans F
      exact (ih _ _ h).trans F
set_option maxRecDepth 20000 in
set_option maxHeartbeats 4000000 in
theorem fl_Mod_setUp_35 {n : Nat} {b : Nat} {r : IM} (o0 : b < 102 ∨ 102 + 39 ≤ b)  : ∀ (f : Nat) (x2 : Int32) (I : IM), l_Mod_setUp_35 n  f x2 I = some r → r b = I b
  | 0, _, _, h => by cases h
  | f + 1, x2, I, h => by
    have ih := fl_Mod_setUp_35 (b := b) (r := r) (n := n)   o0 f
    rw [l_Mod_setUp_35] at h
    have F : I b = I b := rfl
    refine em_t (c := (96 : Int32) ≤ x2) (fun q6 => ?_) (fun q6 => ?_)
    · replace h := ite_t h q6
      exact (fl_Mod_setUp_70 o0  _ _ _ h).trans F
    · replace h := ite_f h q6
      obtain ⟨c7, h⟩ := chk_e h
      obtain ⟨I8, hI8, h⟩ := lt_x h
      replace F := (show I8 b = _ from by first | exact fr_up hI8 (by first | omega | (intro e; subst e; revert o0; decide)) | exact fr_fil hI8 (by omega) | exact fr_cpy hI8 (by omega)).trans F
      obtain ⟨I9, hI9, h⟩ := lt_x h
      replace F := (show I9 b = _ from by first | exact fr_up hI9 (by first | omega | (intro e; subst e; revert o0; decide)) | exact fr_fil hI9 (by omega) | exact fr_cpy hI9 (by omega)).trans F
      obtain ⟨I10, hI10, h⟩ := lt_x h
      replace F := (show I10 b = _ from by first | exact fr_up hI10 (by first | omega | (intro e; subst e; revert o0; decide)) | exact fr_fil hI10 (by omega) | exact fr_cpy hI10 (by omega)).trans F
      exact (ih _ _ h).trans F
set_option maxRecDepth 20000 in
set_option maxHeartbeats 4000000 in
theorem fl_Mod_setUp_7 {n : Nat} {b : Nat} {r : IM} (o0 : b < 102 ∨ 102 + 39 ≤ b)  : ∀ (f : Nat) (x2 : Int32) (I : IM), l_Mod_setUp_7 n  f x2 I = some r → r b = I b
  | 0, _, _, h => by cases h
  | f + 1, x2, I, h => by
    have ih := fl_Mod_setUp_7 (b := b) (r := r) (n := n)   o0 f
    rw [l_Mod_setUp_7] at h
    have F : I b = I b := rfl
    refine em_t (c := (64 : Int32) ≤ x2) (fun q2 => ?_) (fun q2 => ?_)
    · replace h := ite_t h q2
      exact (fl_Mod_setUp_35 o0  _ _ _ h).trans F
    · replace h := ite_f h q2
      obtain ⟨c3, h⟩ := chk_e h
      obtain ⟨I4, hI4, h⟩ := lt_x h
      replace F := (show I4 b = _ from by first | exact fr_up hI4 (by first | omega | (intro e; subst e; revert o0; decide)) | exact fr_fil hI4 (by omega) | exact fr_cpy hI4 (by omega)).trans F
      obtain ⟨I5, hI5, h⟩ := lt_x h
      replace F := (show I5 b = _ from by first | exact fr_up hI5 (by first | omega | (intro e; subst e; revert o0; decide)) | exact fr_fil hI5 (by omega) | exact fr_cpy hI5 (by omega)).trans F
      exact (ih _ _ h).trans F
set_option maxRecDepth 20000 in
set_option maxHeartbeats 4000000 in
theorem fr_Mod_setUp {n : Nat} {x1 : Int32} {I : IM} {b : Nat} {r : IM}  (h : f_Mod_setUp n x1 I = some r) (o0 : b < 102 ∨ 102 + 39 ≤ b) : r b = I b := by
  unfold f_Mod_setUp at h
  have F : I b = I b := rfl
  obtain ⟨I1, hI1, h⟩ := lt_x h
  replace F := (show I1 b = _ from by first | exact fr_up hI1 (by first | omega | (intro e; subst e; revert o0; decide)) | exact fr_fil hI1 (by omega) | exact fr_cpy hI1 (by omega)).trans F
  exact (fl_Mod_setUp_7 o0  _ _ _ h).trans F
set_option maxRecDepth 20000 in
set_option maxHeartbeats 4000000 in
theorem fr_Mod_begin {n : Nat} {x1 : Int32} {I : IM} {b : Nat} {r : IM}  (h : f_Mod_begin n x1 I = some r) (o0 : b < 102 ∨ 102 + 39 ≤ b) : r b = I b := by
  unfold f_Mod_begin at h
  have F : I b = I b := rfl
  obtain ⟨I1, hI1, h⟩ := lt_x h
  replace F := (show I1 b = _ from by first | exact fr_up hI1 (by first | omega | (intro e; subst e; revert o0; decide)) | exact fr_fil hI1 (by omega) | exact fr_cpy hI1 (by omega)).trans F
  obtain ⟨v2, e3, h⟩ := bnd_e h
  replace F := (fr_Mod_setUp e3 (by first | omega | exact outA o0 (by decide))).trans F
  cases h
  exact F
set_option maxRecDepth 20000 in
set_option maxHeartbeats 4000000 in
theorem fb_Mod_code_37 {b : Nat} {r : IM} (o0 : b < 102 ∨ 102 + 39 ≤ b)   {I : IM} (h : b_Mod_code_37    I = some r) : r b = I b := by
  unfold b_Mod_code_37 at h
  have F : I b = I b := rfl
  cases h
  exact F
set_option maxRecDepth 20000 in
set_option maxHeartbeats 4000000 in
theorem fr_Mod_code {x1 : Int32} {x2 : Int32} {x3 : Int32} {I : IM} {b : Nat} {r : IM}  (h : f_Mod_code x1 x2 x3 I = some r) (o0 : b < 102 ∨ 102 + 39 ≤ b) : r b = I b := by
  unfold f_Mod_code at h
  have F : I b = I b := rfl
  obtain ⟨v1, e2, h⟩ := bnd_e h
  obtain ⟨v4, e5, h⟩ := bnd_e h
  replace F := (fr_Mod_refuse e5 (by first | omega | exact outA o0 (by decide))).trans F
  refine em_f (c := (v4.1 : Int32) = 0) (fun q6 => ?_) (fun q6 => ?_)
  · replace h := ite_f h q6
    exact (fb_Mod_code_37 o0  h).trans F
  · replace h := ite_t h q6
    obtain ⟨c7, h⟩ := chk_e h
    obtain ⟨I8, hI8, h⟩ := lt_x h
    replace F := (show I8 b = _ from by first | exact fr_up hI8 (by first | omega | (intro e; subst e; revert o0; decide)) | exact fr_fil hI8 (by omega) | exact fr_cpy hI8 (by omega)).trans F
    obtain ⟨I9, hI9, h⟩ := lt_x h
    replace F := (show I9 b = _ from by first | exact fr_up hI9 (by first | omega | (intro e; subst e; revert o0; decide)) | exact fr_fil hI9 (by omega) | exact fr_cpy hI9 (by omega)).trans F
    exact (fb_Mod_code_37 o0  h).trans F
set_option maxRecDepth 20000 in
set_option maxHeartbeats 4000000 in
theorem fb_Mod_word_42 {b : Nat} {r : IM} (o0 : b < 102 ∨ 102 + 39 ≤ b)   {I : IM} (h : b_Mod_word_42    I = some r) : r b = I b := by
  unfold b_Mod_word_42 at h
  have F : I b = I b := rfl
  cases h
  exact F
set_option maxRecDepth 20000 in
set_option maxHeartbeats 4000000 in
theorem fr_Mod_word {x1 : Int32} {x2 : Int32} {x3 : Int32} {x4 : Int32} {I : IM} {b : Nat} {r : IM}  (h : f_Mod_word x1 x2 x3 x4 I = some r) (o0 : b < 102 ∨ 102 + 39 ≤ b) : r b = I b := by
  unfold f_Mod_word at h
  have F : I b = I b := rfl
  obtain ⟨v1, e2, h⟩ := bnd_e h
  obtain ⟨v4, e5, h⟩ := bnd_e h
  replace F := (fr_Mod_refuse e5 (by first | omega | exact outA o0 (by decide))).trans F
  refine em_f (c := (v4.1 : Int32) = 0) (fun q6 => ?_) (fun q6 => ?_)
  · replace h := ite_f h q6
    exact (fb_Mod_word_42 o0  h).trans F
  · replace h := ite_t h q6
    obtain ⟨c7, h⟩ := chk_e h
    obtain ⟨I8, hI8, h⟩ := lt_x h
    replace F := (show I8 b = _ from by first | exact fr_up hI8 (by first | omega | (intro e; subst e; revert o0; decide)) | exact fr_fil hI8 (by omega) | exact fr_cpy hI8 (by omega)).trans F
    obtain ⟨I9, hI9, h⟩ := lt_x h
    replace F := (show I9 b = _ from by first | exact fr_up hI9 (by first | omega | (intro e; subst e; revert o0; decide)) | exact fr_fil hI9 (by omega) | exact fr_cpy hI9 (by omega)).trans F
    obtain ⟨I10, hI10, h⟩ := lt_x h
    replace F := (show I10 b = _ from by first | exact fr_up hI10 (by first | omega | (intro e; subst e; revert o0; decide)) | exact fr_fil hI10 (by omega) | exact fr_cpy hI10 (by omega)).trans F
    exact (fb_Mod_word_42 o0  h).trans F
set_option maxRecDepth 20000 in
set_option maxHeartbeats 4000000 in
theorem fb_Mod_register_57 {b : Nat} {r : IM} (o0 : b < 102 ∨ 102 + 39 ≤ b)   {I : IM} (h : b_Mod_register_57    I = some r) : r b = I b := by
  unfold b_Mod_register_57 at h
  have F : I b = I b := rfl
  cases h
  exact F
set_option maxRecDepth 20000 in
set_option maxHeartbeats 4000000 in
theorem fr_Mod_register {x1 : Int32} {x2 : Int32} {x3 : Int32} {I : IM} {b : Nat} {r : IM}  (h : f_Mod_register x1 x2 x3 I = some r) (o0 : b < 102 ∨ 102 + 39 ≤ b) : r b = I b := by
  unfold f_Mod_register at h
  have F : I b = I b := rfl
  obtain ⟨v1, e2, h⟩ := bnd_e h
  obtain ⟨v4, e5, h⟩ := bnd_e h
  replace F := (fr_Mod_refuse e5 (by first | omega | exact outA o0 (by decide))).trans F
  refine em_t (c := (v4.1 : Int32) = 0) (fun q6 => ?_) (fun q6 => ?_)
  · replace h := ite_t h q6
    refine em_f (c := x1 = (8 : Int32)) (fun q7 => ?_) (fun q7 => ?_)
    · replace h := ite_f h q7
      obtain ⟨c8, h⟩ := chk_e h
      obtain ⟨I9, hI9, h⟩ := lt_x h
      replace F := (show I9 b = _ from by first | exact fr_up hI9 (by first | omega | (intro e; subst e; revert o0; decide)) | exact fr_fil hI9 (by omega) | exact fr_cpy hI9 (by omega)).trans F
      obtain ⟨I10, hI10, h⟩ := lt_x h
      replace F := (show I10 b = _ from by first | exact fr_up hI10 (by first | omega | (intro e; subst e; revert o0; decide)) | exact fr_fil hI10 (by omega) | exact fr_cpy hI10 (by omega)).trans F
      exact (fb_Mod_register_57 o0  h).trans F
    · replace h := ite_t h q7
      obtain ⟨I11, hI11, h⟩ := lt_x h
      replace F := (show I11 b = _ from by first | exact fr_up hI11 (by first | omega | (intro e; subst e; revert o0; decide)) | exact fr_fil hI11 (by omega) | exact fr_cpy hI11 (by omega)).trans F
      obtain ⟨I12, hI12, h⟩ := lt_x h
      replace F := (show I12 b = _ from by first | exact fr_up hI12 (by first | omega | (intro e; subst e; revert o0; decide)) | exact fr_fil hI12 (by omega) | exact fr_cpy hI12 (by omega)).trans F
      exact (fb_Mod_register_57 o0  h).trans F
  · replace h := ite_f h q6
    cases h
    exact F
set_option maxRecDepth 20000 in
set_option maxHeartbeats 4000000 in
theorem fr_Mod_input {x1 : Int32} {x2 : Int32} {I : IM} {b : Nat} {r : Int32 × IM}  (h : f_Mod_input x1 x2 I = some r) (o0 : b < 102 ∨ 102 + 39 ≤ b) : r.2 b = I b := by
  unfold f_Mod_input at h
  have F : I b = I b := rfl
  obtain ⟨v2, e3, h⟩ := bnd_e h
  replace F := (fr_Mod_refuse e3 (by first | omega | exact outA o0 (by decide))).trans F
  refine em_t (c := (v2.1 : Int32) = 0) (fun q4 => ?_) (fun q4 => ?_)
  · replace h := ite_t h q4
    obtain ⟨c5, h⟩ := chk_e h
    obtain ⟨I6, hI6, h⟩ := lt_x h
    replace F := (show I6 b = _ from by first | exact fr_up hI6 (by first | omega | (intro e; subst e; revert o0; decide)) | exact fr_fil hI6 (by omega) | exact fr_cpy hI6 (by omega)).trans F
    obtain ⟨c7, h⟩ := chk_e h
    obtain ⟨I8, hI8, h⟩ := lt_x h
    replace F := (show I8 b = _ from by first | exact fr_up hI8 (by first | omega | (intro e; subst e; revert o0; decide)) | exact fr_fil hI8 (by omega) | exact fr_cpy hI8 (by omega)).trans F
    obtain ⟨I9, hI9, h⟩ := lt_x h
    replace F := (show I9 b = _ from by first | exact fr_up hI9 (by first | omega | (intro e; subst e; revert o0; decide)) | exact fr_fil hI9 (by omega) | exact fr_cpy hI9 (by omega)).trans F
    cases h
    exact F
  · replace h := ite_f h q4
    cases h
    exact F
set_option maxRecDepth 20000 in
set_option maxHeartbeats 4000000 in
theorem fb_Mod_takeNumber_98 {n : Nat} {J : JM} {b : Nat} {r : IM} (o0 : b < 102 ∨ 102 + 39 ≤ b)  {x6 : Int32} {I : IM} (h : b_Mod_takeNumber_98 n J  x6 I = some r) : r b = I b := by
  unfold b_Mod_takeNumber_98 at h
  have F : I b = I b := rfl
  obtain ⟨I18, hI18, h⟩ := lt_x h
  replace F := (show I18 b = _ from by first | exact fr_up hI18 (by first | omega | (intro e; subst e; revert o0; decide)) | exact fr_fil hI18 (by omega) | exact fr_cpy hI18 (by omega)).trans F
  obtain ⟨v19, e20, h⟩ := bnd_e h
  replace F := (fr_Mod_step e20 (by first | omega | exact outA o0 (by decide))).trans F
  cases h
  exact F
set_option maxRecDepth 20000 in
set_option maxHeartbeats 4000000 in
theorem fb_Mod_takeNumber_56 {n : Nat} {J : JM} {b : Nat} {r : IM} (o0 : b < 102 ∨ 102 + 39 ≤ b)  {x1 : Int32} {x2 : Int32} {x4 : Int32} {x5 : Int32} {I : IM} (h : b_Mod_takeNumber_56 n J  x1 x2 x4 x5 I = some r) : r b = I b := by
  unfold b_Mod_takeNumber_56 at h
  have F : I b = I b := rfl
  refine em_t (c := 0 ≤ (I MO 14 : Int32)) (fun q13 => ?_) (fun q13 => ?_)
  · replace h := ite_t h q13
    exact (fb_Mod_takeNumber_98 o0  h).trans F
  · replace h := ite_f h q13
    obtain ⟨v14, e15, h⟩ := bnd_e h
    refine em_f (c := v14 = 0) (fun q16 => ?_) (fun q16 => ?_)
    · replace h := ite_f h q16
      exact (fb_Mod_takeNumber_98 o0  h).trans F
    · replace h := ite_t h q16
      obtain ⟨I17, hI17, h⟩ := lt_x h
      replace F := (show I17 b = _ from by first | exact fr_up hI17 (by first | omega | (intro e; subst e; revert o0; decide)) | exact fr_fil hI17 (by omega) | exact fr_cpy hI17 (by omega)).trans F
      exact (fb_Mod_takeNumber_98 o0  h).trans F
set_option maxRecDepth 20000 in
set_option maxHeartbeats 4000000 in
theorem fb_Mod_takeNumber_35 {n : Nat} {J : JM} {b : Nat} {r : IM} (o0 : b < 102 ∨ 102 + 39 ≤ b)  {x1 : Int32} {x2 : Int32} {x4 : Int32} {x5 : Int32} {I : IM} (h : b_Mod_takeNumber_35 n J  x1 x2 x4 x5 I = some r) : r b = I b := by
  unfold b_Mod_takeNumber_35 at h
  have F : I b = I b := rfl
  refine em_t (c := 0 ≤ (I MO 14 : Int32)) (fun q8 => ?_) (fun q8 => ?_)
  · replace h := ite_t h q8
    exact (fb_Mod_takeNumber_56 o0  h).trans F
  · replace h := ite_f h q8
    refine em_t (c := (I MO 10 : Int32) = (200 : Int32)) (fun q9 => ?_) (fun q9 => ?_)
    · replace h := ite_t h q9
      exact (fb_Mod_takeNumber_56 o0  h).trans F
    · replace h := ite_f h q9
      obtain ⟨v10, e11, h⟩ := bnd_e h
      replace F := (fr_Mod_fail e11 (by first | omega | exact outA o0 (by decide))).trans F
      exact (fb_Mod_takeNumber_56 o0  h).trans F
set_option maxRecDepth 20000 in
set_option maxHeartbeats 4000000 in
theorem fb_Mod_takeNumber_24 {n : Nat} {J : JM} {b : Nat} {r : IM} (o0 : b < 102 ∨ 102 + 39 ≤ b)  {x1 : Int32} {x2 : Int32} {x4 : Int32} {y0 : Int32} {I : IM} (h : b_Mod_takeNumber_24 n J  x1 x2 x4 y0 I = some r) : r b = I b := by
  unfold b_Mod_takeNumber_24 at h
  have F : I b = I b := rfl
  refine em_t (c := y0 = 0) (fun q21 => ?_) (fun q21 => ?_)
  · replace h := ite_t h q21
    exact (fb_Mod_takeNumber_35 o0  h).trans F
  · replace h := ite_f h q21
    obtain ⟨v22, e23, h⟩ := bnd_e h
    replace F := (fr_Mod_step e23 (by first | omega | exact outA o0 (by decide))).trans F
    exact (fb_Mod_takeNumber_35 o0  h).trans F
set_option maxRecDepth 20000 in
set_option maxHeartbeats 4000000 in
theorem fb_Mod_takeNumber_23 {n : Nat} {J : JM} {b : Nat} {r : IM} (o0 : b < 102 ∨ 102 + 39 ≤ b)  {x1 : Int32} {x2 : Int32} {x4 : Int32} {I : IM} (h : b_Mod_takeNumber_23 n J  x1 x2 x4 I = some r) : r b = I b := by
  unfold b_Mod_takeNumber_23 at h
  have F : I b = I b := rfl
  exact (fb_Mod_takeNumber_24 o0  h).trans F
set_option maxRecDepth 20000 in
set_option maxHeartbeats 4000000 in
theorem fr_Mod_takeNumber {n : Nat} {J : JM} {x1 : Int32} {x2 : Int32} {x3 : Int32} {I : IM} {b : Nat} {r : IM}  (h : f_Mod_takeNumber n J x1 x2 x3 I = some r) (o0 : b < 102 ∨ 102 + 39 ≤ b) : r b = I b := by
  unfold f_Mod_takeNumber at h
  have F : I b = I b := rfl
  refine em_t (c := x3 = 0) (fun q1 => ?_) (fun q1 => ?_)
  · replace h := ite_t h q1
    exact (fb_Mod_takeNumber_23 o0  h).trans F
  · replace h := ite_f h q1
    obtain ⟨v2, e3, h⟩ := bnd_e h
    refine em_t (c := (if v2 = 0 then 0 else 1 : Int32) = 0) (fun q5 => ?_) (fun q5 => ?_)
    · replace h := ite_t h q5
      exact (fb_Mod_takeNumber_35 o0  h).trans F
    · replace h := ite_f h q5
      obtain ⟨v6, e7, h⟩ := bnd_e h
      replace F := (fr_Mod_step e7 (by first | omega | exact outA o0 (by decide))).trans F
      exact (fb_Mod_takeNumber_35 o0  h).trans F
set_option maxRecDepth 20000 in
set_option maxHeartbeats 4000000 in
theorem fr_Mod_takeAny {n : Nat} {J : JM} {I : IM} {b : Nat} {r : IM}  (h : f_Mod_takeAny n J I = some r) (o0 : b < 102 ∨ 102 + 39 ≤ b) : r b = I b := by
  unfold f_Mod_takeAny at h
  have F : I b = I b := rfl
  obtain ⟨v1, e2, h⟩ := bnd_e h
  replace F := (fr_Mod_takeNumber e2 (by first | omega | exact outA o0 (by decide))).trans F
  cases h
  exact F
set_option maxRecDepth 20000 in
set_option maxHeartbeats 4000000 in
theorem fb_Mod_takeAfter_15 {n : Nat} {J : JM} {b : Nat} {r : Int32 × IM} (o0 : b < 102 ∨ 102 + 39 ≤ b)   {I : IM} (h : b_Mod_takeAfter_15 n J   I = some r) : r.2 b = I b := by
  unfold b_Mod_takeAfter_15 at h
  have F : I b = I b := rfl
  cases h
  exact F
set_option maxRecDepth 20000 in
set_option maxHeartbeats 4000000 in
theorem fr_Mod_takeAfter {n : Nat} {J : JM} {x1 : Int32} {I : IM} {b : Nat} {r : Int32 × IM}  (h : f_Mod_takeAfter n J x1 I = some r) (o0 : b < 102 ∨ 102 + 39 ≤ b) : r.2 b = I b := by
  unfold f_Mod_takeAfter at h
  have F : I b = I b := rfl
  refine em_t (c := 0 ≤ (I MO 14 : Int32)) (fun q1 => ?_) (fun q1 => ?_)
  · replace h := ite_t h q1
    exact (fb_Mod_takeAfter_15 o0  h).trans F
  · replace h := ite_f h q1
    refine em_t (c := (I MO 10 : Int32) = x1) (fun q2 => ?_) (fun q2 => ?_)
    · replace h := ite_t h q2
      obtain ⟨v3, e4, h⟩ := bnd_e h
      replace F := (fr_Mod_step e4 (by first | omega | exact outA o0 (by decide))).trans F
      obtain ⟨v5, e6, h⟩ := bnd_e h
      replace F := (fr_Mod_takeAny e6 (by first | omega | exact outA o0 (by decide))).trans F
      cases h
      exact F
    · replace h := ite_f h q2
      exact (fb_Mod_takeAfter_15 o0  h).trans F
set_option maxRecDepth 20000 in
set_option maxHeartbeats 4000000 in
theorem fb_Mod_instructionLine_281 {n : Nat} {J : JM} {b : Nat} {r : IM} (o0 : b < 102 ∨ 102 + 39 ≤ b) {H30 : Int32 → Int32 → Int32 → Int32 → IM → Option (IM)} (hH30 : ∀ (x1 : Int32) (x2 : Int32) (x3 : Int32) (x4 : Int32) (I : IM), H30 x1 x2 x3 x4 I = some r → r b = I b) {x1 : Int32} {x2 : Int32} {x3 : Int32} {x4 : Int32} {I : IM} (h : b_Mod_instructionLine_281 n J H30 x1 x2 x3 x4 I = some r) : r b = I b := by
  unfold b_Mod_instructionLine_281 at h
  have F : I b = I b := rfl
  exact (hH30 _ _ _ _ _ h).trans F
set_option maxRecDepth 20000 in
set_option maxHeartbeats 4000000 in
theorem fb_Mod_instructionLine_210 {n : Nat} {J : JM} {b : Nat} {r : IM} (o0 : b < 102 ∨ 102 + 39 ≤ b) {H30 : Int32 → Int32 → Int32 → Int32 → IM → Option (IM)} (hH30 : ∀ (x1 : Int32) (x2 : Int32) (x3 : Int32) (x4 : Int32) (I : IM), H30 x1 x2 x3 x4 I = some r → r b = I b) {x1 : Int32} {x2 : Int32} {x3 : Int32} {x4 : Int32} {x5 : Int32} {y2 : Int32} {y1 : Int32} {I : IM} (h : b_Mod_instructionLine_210 n J H30 x1 x2 x3 x4 x5 y2 y1 I = some r) : r b = I b := by
  unfold b_Mod_instructionLine_210 at h
  have F : I b = I b := rfl
  obtain ⟨v30, e31, h⟩ := bnd_e h
  replace F := (fr_Mod_takeNumber e31 (by first | omega | exact outA o0 (by decide))).trans F
  exact (fb_Mod_instructionLine_281 o0 hH30 h).trans F
set_option maxRecDepth 20000 in
set_option maxHeartbeats 4000000 in
theorem fb_Mod_instructionLine_184 {n : Nat} {J : JM} {b : Nat} {r : IM} (o0 : b < 102 ∨ 102 + 39 ≤ b) {H30 : Int32 → Int32 → Int32 → Int32 → IM → Option (IM)} (hH30 : ∀ (x1 : Int32) (x2 : Int32) (x3 : Int32) (x4 : Int32) (I : IM), H30 x1 x2 x3 x4 I = some r → r b = I b) {x1 : Int32} {x2 : Int32} {x3 : Int32} {x4 : Int32} {x5 : Int32} {y1 : Int32} {I : IM} (h : b_Mod_instructionLine_184 n J H30 x1 x2 x3 x4 x5 y1 I = some r) : r b = I b := by
  unfold b_Mod_instructionLine_184 at h
  have F : I b = I b := rfl
  refine em_t (c := (3 : Int32) ≤ x5) (fun q27 => ?_) (fun q27 => ?_)
  · replace h := ite_t h q27
    refine em_f (c := x5 = (3 : Int32)) (fun q28 => ?_) (fun q28 => ?_)
    · replace h := ite_f h q28
      exact (fb_Mod_instructionLine_210 o0 hH30 h).trans F
    · replace h := ite_t h q28
      exact (fb_Mod_instructionLine_210 o0 hH30 h).trans F
  · replace h := ite_f h q27
    exact (fb_Mod_instructionLine_210 o0 hH30 h).trans F
set_option maxRecDepth 20000 in
set_option maxHeartbeats 4000000 in
theorem fb_Mod_instructionLine_135 {n : Nat} {J : JM} {b : Nat} {r : IM} (o0 : b < 102 ∨ 102 + 39 ≤ b) {H30 : Int32 → Int32 → Int32 → Int32 → IM → Option (IM)} (hH30 : ∀ (x1 : Int32) (x2 : Int32) (x3 : Int32) (x4 : Int32) (I : IM), H30 x1 x2 x3 x4 I = some r → r b = I b) {x1 : Int32} {x2 : Int32} {x3 : Int32} {x4 : Int32} {x5 : Int32} {I : IM} (h : b_Mod_instructionLine_135 n J H30 x1 x2 x3 x4 x5 I = some r) : r b = I b := by
  unfold b_Mod_instructionLine_135 at h
  have F : I b = I b := rfl
  refine em_t (c := x4 = 0) (fun q21 => ?_) (fun q21 => ?_)
  · replace h := ite_t h q21
    exact (fb_Mod_instructionLine_281 o0 hH30 h).trans F
  · replace h := ite_f h q21
    refine em_t (c := 0 ≤ (I MO 14 : Int32)) (fun q22 => ?_) (fun q22 => ?_)
    · replace h := ite_t h q22
      exact (fb_Mod_instructionLine_281 o0 hH30 h).trans F
    · replace h := ite_f h q22
      obtain ⟨v23, e24, h⟩ := bnd_e h
      replace F := (fr_Mod_step e24 (by first | omega | exact outA o0 (by decide))).trans F
      refine em_t (c := (3 : Int32) ≤ x5) (fun q25 => ?_) (fun q25 => ?_)
      · replace h := ite_t h q25
        refine em_f (c := x5 = (3 : Int32)) (fun q26 => ?_) (fun q26 => ?_)
        · replace h := ite_f h q26
          exact (fb_Mod_instructionLine_184 o0 hH30 h).trans F
        · replace h := ite_t h q26
          exact (fb_Mod_instructionLine_184 o0 hH30 h).trans F
      · replace h := ite_f h q25
        exact (fb_Mod_instructionLine_184 o0 hH30 h).trans F
set_option maxRecDepth 20000 in
set_option maxHeartbeats 4000000 in
theorem fb_Mod_instructionLine_114 {n : Nat} {J : JM} {b : Nat} {r : IM} (o0 : b < 102 ∨ 102 + 39 ≤ b) {H30 : Int32 → Int32 → Int32 → Int32 → IM → Option (IM)} (hH30 : ∀ (x1 : Int32) (x2 : Int32) (x3 : Int32) (x4 : Int32) (I : IM), H30 x1 x2 x3 x4 I = some r → r b = I b) {x1 : Int32} {x2 : Int32} {x3 : Int32} {x5 : Int32} {y0 : Int32} {I : IM} (h : b_Mod_instructionLine_114 n J H30 x1 x2 x3 x5 y0 I = some r) : r b = I b := by
  unfold b_Mod_instructionLine_114 at h
  have F : I b = I b := rfl
  refine em_t (c := y0 = 0) (fun q35 => ?_) (fun q35 => ?_)
  · replace h := ite_t h q35
    exact (fb_Mod_instructionLine_135 o0 hH30 h).trans F
  · replace h := ite_f h q35
    refine em_f (c := (((x3 : Int32) >>> ((x5 : Int32) &&& 31)) &&& 1 : Int32) = (1 : Int32)) (fun q36 => ?_) (fun q36 => ?_)
    · replace h := ite_f h q36
      exact (fb_Mod_instructionLine_135 o0 hH30 h).trans F
    · replace h := ite_t h q36
      obtain ⟨v37, e38, h⟩ := bnd_e h
      replace F := (fr_Mod_fail e38 (by first | omega | exact outA o0 (by decide))).trans F
      exact (fb_Mod_instructionLine_135 o0 hH30 h).trans F
set_option maxRecDepth 20000 in
set_option maxHeartbeats 4000000 in
theorem fb_Mod_instructionLine_113 {n : Nat} {J : JM} {b : Nat} {r : IM} (o0 : b < 102 ∨ 102 + 39 ≤ b) {H30 : Int32 → Int32 → Int32 → Int32 → IM → Option (IM)} (hH30 : ∀ (x1 : Int32) (x2 : Int32) (x3 : Int32) (x4 : Int32) (I : IM), H30 x1 x2 x3 x4 I = some r → r b = I b) {x1 : Int32} {x2 : Int32} {x3 : Int32} {x5 : Int32} {I : IM} (h : b_Mod_instructionLine_113 n J H30 x1 x2 x3 x5 I = some r) : r b = I b := by
  unfold b_Mod_instructionLine_113 at h
  have F : I b = I b := rfl
  exact (fb_Mod_instructionLine_114 o0 hH30 h).trans F
set_option maxRecDepth 20000 in
set_option maxHeartbeats 4000000 in
theorem fb_Mod_instructionLine_311 {n : Nat} {J : JM} {b : Nat} {r : IM} (o0 : b < 102 ∨ 102 + 39 ≤ b)   {I : IM} (h : b_Mod_instructionLine_311 n J   I = some r) : r b = I b := by
  unfold b_Mod_instructionLine_311 at h
  have F : I b = I b := rfl
  obtain ⟨I44, hI44, h⟩ := lt_x h
  replace F := (show I44 b = _ from by first | exact fr_up hI44 (by first | omega | (intro e; subst e; revert o0; decide)) | exact fr_fil hI44 (by omega) | exact fr_cpy hI44 (by omega)).trans F
  cases h
  exact F
set_option maxRecDepth 20000 in
set_option maxHeartbeats 4000000 in
theorem fb_Mod_instructionLine_284 {n : Nat} {J : JM} {b : Nat} {r : IM} (o0 : b < 102 ∨ 102 + 39 ≤ b)  {x1 : Int32} {x2 : Int32} {I : IM} (h : b_Mod_instructionLine_284 n J  x1 x2 I = some r) : r b = I b := by
  unfold b_Mod_instructionLine_284 at h
  have F : I b = I b := rfl
  refine em_t (c := (I MO 6 : Int32) = 0) (fun q39 => ?_) (fun q39 => ?_)
  · replace h := ite_t h q39
    exact (fb_Mod_instructionLine_311 o0  h).trans F
  · replace h := ite_f h q39
    obtain ⟨c40, h⟩ := chk_e h
    obtain ⟨I41, hI41, h⟩ := lt_x h
    replace F := (show I41 b = _ from by first | exact fr_up hI41 (by first | omega | (intro e; subst e; revert o0; decide)) | exact fr_fil hI41 (by omega) | exact fr_cpy hI41 (by omega)).trans F
    obtain ⟨c42, h⟩ := chk_e h
    obtain ⟨I43, hI43, h⟩ := lt_x h
    replace F := (show I43 b = _ from by first | exact fr_up hI43 (by first | omega | (intro e; subst e; revert o0; decide)) | exact fr_fil hI43 (by omega) | exact fr_cpy hI43 (by omega)).trans F
    exact (fb_Mod_instructionLine_311 o0  h).trans F
set_option maxRecDepth 20000 in
set_option maxHeartbeats 4000000 in
theorem fl_Mod_instructionLine_30 {n : Nat} {J : JM} {b : Nat} {r : IM} (o0 : b < 102 ∨ 102 + 39 ≤ b)  : ∀ (f : Nat) (x1 : Int32) (x2 : Int32) (x3 : Int32) (x4 : Int32) (I : IM), l_Mod_instructionLine_30 n J  f x1 x2 x3 x4 I = some r → r b = I b
  | 0, _, _, _, _, _, h => by cases h
  | f + 1, x1, x2, x3, x4, I, h => by
    have ih := fl_Mod_instructionLine_30 (b := b) (r := r) (n := n)  (J := J) o0 f
    rw [l_Mod_instructionLine_30] at h
    have F : I b = I b := rfl
    refine em_t (c := x4 = 0) (fun q6 => ?_) (fun q6 => ?_)
    · replace h := ite_t h q6
      exact (fb_Mod_instructionLine_284 o0  h).trans F
    · replace h := ite_f h q6
      refine em_t (c := 0 ≤ (I MO 14 : Int32)) (fun q7 => ?_) (fun q7 => ?_)
      · replace h := ite_t h q7
        exact (fb_Mod_instructionLine_284 o0  h).trans F
      · replace h := ite_f h q7
        obtain ⟨v8, e9, h⟩ := bnd_e h
        refine em_t (c := (if v8 = 0 then (if (I MO 10 : Int32) = (40 : Int32) then 3 else (if (I MO 10 : Int32) = (51 : Int32) then 4 else (-1))) else ((I MO 10) - (31)) : Int32) < 0) (fun q13 => ?_) (fun q13 => ?_)
        · replace h := ite_t h q13
          exact (fb_Mod_instructionLine_113 o0 ih h).trans F
        · replace h := ite_f h q13
          obtain ⟨v14, e15, h⟩ := bnd_e h
          refine em_t (c := (if v14 = 0 then 1 else 0 : Int32) = 0) (fun q17 => ?_) (fun q17 => ?_)
          · replace h := ite_t h q17
            exact (fb_Mod_instructionLine_135 o0 ih h).trans F
          · replace h := ite_f h q17
            refine em_f (c := (((x3 : Int32) >>> ((if v8 = 0 then (if (I MO 10 : Int32) = (40 : Int32) then 3 else (if (I MO 10 : Int32) = (51 : Int32) then 4 else (-1))) else ((I MO 10) - (31)) : Int32) &&& 31)) &&& 1 : Int32) = (1 : Int32)) (fun q18 => ?_) (fun q18 => ?_)
            · replace h := ite_f h q18
              exact (fb_Mod_instructionLine_135 o0 ih h).trans F
            · replace h := ite_t h q18
              obtain ⟨v19, e20, h⟩ := bnd_e h
              replace F := (fr_Mod_fail e20 (by first | omega | exact outA o0 (by decide))).trans F
              exact (fb_Mod_instructionLine_135 o0 ih h).trans F
set_option maxRecDepth 20000 in
set_option maxHeartbeats 4000000 in
theorem fr_Mod_instructionLine {n : Nat} {J : JM} {I : IM} {b : Nat} {r : IM}  (h : f_Mod_instructionLine n J I = some r) (o0 : b < 102 ∨ 102 + 39 ≤ b) : r b = I b := by
  unfold f_Mod_instructionLine at h
  have F : I b = I b := rfl
  refine em_t (c := (I MO 4 : Int32) < (64 : Int32)) (fun q1 => ?_) (fun q1 => ?_)
  · replace h := ite_t h q1
    obtain ⟨v2, e3, h⟩ := bnd_e h
    replace F := (fr_Mod_step e3 (by first | omega | exact outA o0 (by decide))).trans F
    exact (fl_Mod_instructionLine_30 o0  _ _ _ _ _ _ h).trans F
  · replace h := ite_f h q1
    obtain ⟨v4, e5, h⟩ := bnd_e h
    replace F := (fr_Mod_fail e5 (by first | omega | exact outA o0 (by decide))).trans F
    cases h
    exact F
set_option maxRecDepth 20000 in
set_option maxHeartbeats 4000000 in
theorem fb_Mod_wordLine_77 {n : Nat} {J : JM} {b : Nat} {r : IM} (o0 : b < 102 ∨ 102 + 39 ≤ b)   {I : IM} (h : b_Mod_wordLine_77 n J   I = some r) : r b = I b := by
  unfold b_Mod_wordLine_77 at h
  have F : I b = I b := rfl
  cases h
  exact F
set_option maxRecDepth 20000 in
set_option maxHeartbeats 4000000 in
theorem fb_Mod_wordLine_28 {n : Nat} {J : JM} {b : Nat} {r : IM} (o0 : b < 102 ∨ 102 + 39 ≤ b)  {x1 : Int32} {I : IM} (h : b_Mod_wordLine_28 n J  x1 I = some r) : r b = I b := by
  unfold b_Mod_wordLine_28 at h
  have F : I b = I b := rfl
  obtain ⟨v8, e9, h⟩ := bnd_e h
  replace F := (fr_Mod_takeAfter e9 (by first | omega | exact outA o0 (by decide))).trans F
  obtain ⟨v10, e11, h⟩ := bnd_e h
  replace F := (fr_Mod_takeAfter e11 (by first | omega | exact outA o0 (by decide))).trans F
  refine em_t (c := (v10.2 MO 6 : Int32) = 0) (fun q12 => ?_) (fun q12 => ?_)
  · replace h := ite_t h q12
    exact (fb_Mod_wordLine_77 o0  h).trans F
  · replace h := ite_f h q12
    obtain ⟨c13, h⟩ := chk_e h
    obtain ⟨I14, hI14, h⟩ := lt_x h
    replace F := (show I14 b = _ from by first | exact fr_up hI14 (by first | omega | (intro e; subst e; revert o0; decide)) | exact fr_fil hI14 (by omega) | exact fr_cpy hI14 (by omega)).trans F
    obtain ⟨I15, hI15, h⟩ := lt_x h
    replace F := (show I15 b = _ from by first | exact fr_up hI15 (by first | omega | (intro e; subst e; revert o0; decide)) | exact fr_fil hI15 (by omega) | exact fr_cpy hI15 (by omega)).trans F
    obtain ⟨I16, hI16, h⟩ := lt_x h
    replace F := (show I16 b = _ from by first | exact fr_up hI16 (by first | omega | (intro e; subst e; revert o0; decide)) | exact fr_fil hI16 (by omega) | exact fr_cpy hI16 (by omega)).trans F
    exact (fb_Mod_wordLine_77 o0  h).trans F
set_option maxRecDepth 20000 in
set_option maxHeartbeats 4000000 in
theorem fr_Mod_wordLine {n : Nat} {J : JM} {I : IM} {b : Nat} {r : IM}  (h : f_Mod_wordLine n J I = some r) (o0 : b < 102 ∨ 102 + 39 ≤ b) : r b = I b := by
  unfold f_Mod_wordLine at h
  have F : I b = I b := rfl
  obtain ⟨v1, e2, h⟩ := bnd_e h
  replace F := (fr_Mod_step e2 (by first | omega | exact outA o0 (by decide))).trans F
  obtain ⟨v3, e4, h⟩ := bnd_e h
  replace F := (fr_Mod_takeNumber e4 (by first | omega | exact outA o0 (by decide))).trans F
  refine em_t (c := 0 ≤ (v3 MO 14 : Int32)) (fun q5 => ?_) (fun q5 => ?_)
  · replace h := ite_t h q5
    exact (fb_Mod_wordLine_28 o0  h).trans F
  · replace h := ite_f h q5
    obtain ⟨v6, e7, h⟩ := bnd_e h
    replace F := (fr_Mod_takeAny e7 (by first | omega | exact outA o0 (by decide))).trans F
    exact (fb_Mod_wordLine_28 o0  h).trans F
set_option maxRecDepth 20000 in
set_option maxHeartbeats 4000000 in
theorem fb_Mod_registerLine_87 {n : Nat} {J : JM} {b : Nat} {r : IM} (o0 : b < 102 ∨ 102 + 39 ≤ b)   {I : IM} (h : b_Mod_registerLine_87 n J   I = some r) : r b = I b := by
  unfold b_Mod_registerLine_87 at h
  have F : I b = I b := rfl
  cases h
  exact F
set_option maxRecDepth 20000 in
set_option maxHeartbeats 4000000 in
theorem fb_Mod_registerLine_66 {n : Nat} {J : JM} {b : Nat} {r : IM} (o0 : b < 102 ∨ 102 + 39 ≤ b)  {x1 : Int32} {x2 : Int32} {x3 : Int32} {I : IM} (h : b_Mod_registerLine_66 n J  x1 x2 x3 I = some r) : r b = I b := by
  unfold b_Mod_registerLine_66 at h
  have F : I b = I b := rfl
  refine em_t (c := (I MO 6 : Int32) = 0) (fun q14 => ?_) (fun q14 => ?_)
  · replace h := ite_t h q14
    exact (fb_Mod_registerLine_87 o0  h).trans F
  · replace h := ite_f h q14
    obtain ⟨c15, h⟩ := chk_e h
    obtain ⟨I16, hI16, h⟩ := lt_x h
    replace F := (show I16 b = _ from by first | exact fr_up hI16 (by first | omega | (intro e; subst e; revert o0; decide)) | exact fr_fil hI16 (by omega) | exact fr_cpy hI16 (by omega)).trans F
    obtain ⟨I17, hI17, h⟩ := lt_x h
    replace F := (show I17 b = _ from by first | exact fr_up hI17 (by first | omega | (intro e; subst e; revert o0; decide)) | exact fr_fil hI17 (by omega) | exact fr_cpy hI17 (by omega)).trans F
    exact (fb_Mod_registerLine_87 o0  h).trans F
set_option maxRecDepth 20000 in
set_option maxHeartbeats 4000000 in
theorem fb_Mod_registerLine_28 {n : Nat} {J : JM} {b : Nat} {r : IM} (o0 : b < 102 ∨ 102 + 39 ≤ b)  {x1 : Int32} {I : IM} (h : b_Mod_registerLine_28 n J  x1 I = some r) : r b = I b := by
  unfold b_Mod_registerLine_28 at h
  have F : I b = I b := rfl
  obtain ⟨v8, e9, h⟩ := bnd_e h
  replace F := (fr_Mod_takeAfter e9 (by first | omega | exact outA o0 (by decide))).trans F
  refine em_t (c := (v8.2 MO 6 : Int32) = 0) (fun q10 => ?_) (fun q10 => ?_)
  · replace h := ite_t h q10
    exact (fb_Mod_registerLine_66 o0  h).trans F
  · replace h := ite_f h q10
    refine em_f (c := x1 = (8 : Int32)) (fun q11 => ?_) (fun q11 => ?_)
    · replace h := ite_f h q11
      exact (fb_Mod_registerLine_66 o0  h).trans F
    · replace h := ite_t h q11
      obtain ⟨I12, hI12, h⟩ := lt_x h
      replace F := (show I12 b = _ from by first | exact fr_up hI12 (by first | omega | (intro e; subst e; revert o0; decide)) | exact fr_fil hI12 (by omega) | exact fr_cpy hI12 (by omega)).trans F
      obtain ⟨I13, hI13, h⟩ := lt_x h
      replace F := (show I13 b = _ from by first | exact fr_up hI13 (by first | omega | (intro e; subst e; revert o0; decide)) | exact fr_fil hI13 (by omega) | exact fr_cpy hI13 (by omega)).trans F
      exact (fb_Mod_registerLine_87 o0  h).trans F
set_option maxRecDepth 20000 in
set_option maxHeartbeats 4000000 in
theorem fr_Mod_registerLine {n : Nat} {J : JM} {I : IM} {b : Nat} {r : IM}  (h : f_Mod_registerLine n J I = some r) (o0 : b < 102 ∨ 102 + 39 ≤ b) : r b = I b := by
  unfold f_Mod_registerLine at h
  have F : I b = I b := rfl
  obtain ⟨v1, e2, h⟩ := bnd_e h
  replace F := (fr_Mod_step e2 (by first | omega | exact outA o0 (by decide))).trans F
  obtain ⟨v3, e4, h⟩ := bnd_e h
  replace F := (fr_Mod_takeNumber e4 (by first | omega | exact outA o0 (by decide))).trans F
  refine em_t (c := 0 ≤ (v3 MO 14 : Int32)) (fun q5 => ?_) (fun q5 => ?_)
  · replace h := ite_t h q5
    exact (fb_Mod_registerLine_28 o0  h).trans F
  · replace h := ite_f h q5
    obtain ⟨v6, e7, h⟩ := bnd_e h
    replace F := (fr_Mod_takeAny e7 (by first | omega | exact outA o0 (by decide))).trans F
    exact (fb_Mod_registerLine_28 o0  h).trans F
set_option maxRecDepth 20000 in
set_option maxHeartbeats 4000000 in
theorem fb_Mod_inputLine_81 {n : Nat} {J : JM} {b : Nat} {r : IM} (o0 : b < 102 ∨ 102 + 39 ≤ b)   {I : IM} (h : b_Mod_inputLine_81 n J   I = some r) : r b = I b := by
  unfold b_Mod_inputLine_81 at h
  have F : I b = I b := rfl
  cases h
  exact F
set_option maxRecDepth 20000 in
set_option maxHeartbeats 4000000 in
theorem fr_Mod_inputLine {n : Nat} {J : JM} {I : IM} {b : Nat} {r : IM}  (h : f_Mod_inputLine n J I = some r) (o0 : b < 102 ∨ 102 + 39 ≤ b) : r b = I b := by
  unfold f_Mod_inputLine at h
  have F : I b = I b := rfl
  refine em_f (c := (I MO 5 : Int32) = (16 : Int32)) (fun q1 => ?_) (fun q1 => ?_)
  · replace h := ite_f h q1
    obtain ⟨I2, hI2, h⟩ := lt_x h
    replace F := (show I2 b = _ from by first | exact fr_up hI2 (by first | omega | (intro e; subst e; revert o0; decide)) | exact fr_fil hI2 (by omega) | exact fr_cpy hI2 (by omega)).trans F
    obtain ⟨v3, e4, h⟩ := bnd_e h
    replace F := (fr_Mod_step e4 (by first | omega | exact outA o0 (by decide))).trans F
    obtain ⟨v5, e6, h⟩ := bnd_e h
    replace F := (fr_Mod_takeAny e6 (by first | omega | exact outA o0 (by decide))).trans F
    obtain ⟨v7, e8, h⟩ := bnd_e h
    replace F := (fr_Mod_takeAfter e8 (by first | omega | exact outA o0 (by decide))).trans F
    refine em_t (c := (v7.2 MO 6 : Int32) = 0) (fun q9 => ?_) (fun q9 => ?_)
    · replace h := ite_t h q9
      exact (fb_Mod_inputLine_81 o0  h).trans F
    · replace h := ite_f h q9
      obtain ⟨c10, h⟩ := chk_e h
      obtain ⟨I11, hI11, h⟩ := lt_x h
      replace F := (show I11 b = _ from by first | exact fr_up hI11 (by first | omega | (intro e; subst e; revert o0; decide)) | exact fr_fil hI11 (by omega) | exact fr_cpy hI11 (by omega)).trans F
      obtain ⟨c12, h⟩ := chk_e h
      obtain ⟨I13, hI13, h⟩ := lt_x h
      replace F := (show I13 b = _ from by first | exact fr_up hI13 (by first | omega | (intro e; subst e; revert o0; decide)) | exact fr_fil hI13 (by omega) | exact fr_cpy hI13 (by omega)).trans F
      obtain ⟨I14, hI14, h⟩ := lt_x h
      replace F := (show I14 b = _ from by first | exact fr_up hI14 (by first | omega | (intro e; subst e; revert o0; decide)) | exact fr_fil hI14 (by omega) | exact fr_cpy hI14 (by omega)).trans F
      exact (fb_Mod_inputLine_81 o0  h).trans F
  · replace h := ite_t h q1
    obtain ⟨v15, e16, h⟩ := bnd_e h
    replace F := (fr_Mod_fail e16 (by first | omega | exact outA o0 (by decide))).trans F
    cases h
    exact F
set_option maxRecDepth 20000 in
set_option maxHeartbeats 4000000 in
theorem fb_Mod_readImage_188 {n : Nat} {J : JM} {b : Nat} {r : IM} (o0 : b < 102 ∨ 102 + 39 ≤ b) {H31 : Int32 → IM → Option (IM)} (hH31 : ∀ (x2 : Int32) (I : IM), H31 x2 I = some r → r b = I b)  {I : IM} (h : b_Mod_readImage_188 n J H31  I = some r) : r b = I b := by
  unfold b_Mod_readImage_188 at h
  have F : I b = I b := rfl
  obtain ⟨v21, e22, h⟩ := bnd_e h
  replace F := (fr_Mod_need e22 (by first | omega | exact outA o0 (by decide))).trans F
  exact (hH31 _ _ h).trans F
set_option maxRecDepth 20000 in
set_option maxHeartbeats 4000000 in
theorem fb_Mod_readImage_84 {n : Nat} {J : JM} {b : Nat} {r : IM} (o0 : b < 102 ∨ 102 + 39 ≤ b) {H31 : Int32 → IM → Option (IM)} (hH31 : ∀ (x2 : Int32) (I : IM), H31 x2 I = some r → r b = I b)  {I : IM} (h : b_Mod_readImage_84 n J H31  I = some r) : r b = I b := by
  unfold b_Mod_readImage_84 at h
  have F : I b = I b := rfl
  refine em_f (c := (I MO 10 : Int32) = (64 : Int32)) (fun q23 => ?_) (fun q23 => ?_)
  · replace h := ite_f h q23
    refine em_f (c := (I MO 10 : Int32) = (65 : Int32)) (fun q24 => ?_) (fun q24 => ?_)
    · replace h := ite_f h q24
      refine em_f (c := (I MO 10 : Int32) = (67 : Int32)) (fun q25 => ?_) (fun q25 => ?_)
      · replace h := ite_f h q25
        refine em_f (c := (I MO 10 : Int32) = (68 : Int32)) (fun q26 => ?_) (fun q26 => ?_)
        · replace h := ite_f h q26
          obtain ⟨v27, e28, h⟩ := bnd_e h
          refine em_t (c := v27 = 0) (fun q29 => ?_) (fun q29 => ?_)
          · replace h := ite_t h q29
            obtain ⟨v30, e31, h⟩ := bnd_e h
            replace F := (fr_Mod_fail e31 (by first | omega | exact outA o0 (by decide))).trans F
            exact (fb_Mod_readImage_188 o0 hH31 h).trans F
          · replace h := ite_f h q29
            obtain ⟨v32, e33, h⟩ := bnd_e h
            replace F := (fr_Mod_instructionLine e33 (by first | omega | exact outA o0 (by decide))).trans F
            exact (fb_Mod_readImage_188 o0 hH31 h).trans F
        · replace h := ite_t h q26
          obtain ⟨v34, e35, h⟩ := bnd_e h
          replace F := (fr_Mod_inputLine e35 (by first | omega | exact outA o0 (by decide))).trans F
          exact (fb_Mod_readImage_188 o0 hH31 h).trans F
      · replace h := ite_t h q25
        obtain ⟨v36, e37, h⟩ := bnd_e h
        replace F := (fr_Mod_registerLine e37 (by first | omega | exact outA o0 (by decide))).trans F
        exact (fb_Mod_readImage_188 o0 hH31 h).trans F
    · replace h := ite_t h q24
      obtain ⟨v38, e39, h⟩ := bnd_e h
      replace F := (fr_Mod_wordLine e39 (by first | omega | exact outA o0 (by decide))).trans F
      exact (fb_Mod_readImage_188 o0 hH31 h).trans F
  · replace h := ite_t h q23
    obtain ⟨v40, e41, h⟩ := bnd_e h
    replace F := (fr_Mod_step e41 (by first | omega | exact outA o0 (by decide))).trans F
    obtain ⟨v42, e43, h⟩ := bnd_e h
    replace F := (fr_Mod_takeNumber e43 (by first | omega | exact outA o0 (by decide))).trans F
    obtain ⟨I44, hI44, h⟩ := lt_x h
    replace F := (show I44 b = _ from by first | exact fr_up hI44 (by first | omega | (intro e; subst e; revert o0; decide)) | exact fr_fil hI44 (by omega) | exact fr_cpy hI44 (by omega)).trans F
    exact (fb_Mod_readImage_188 o0 hH31 h).trans F
set_option maxRecDepth 20000 in
set_option maxHeartbeats 4000000 in
theorem fb_Mod_readImage_199 {n : Nat} {J : JM} {b : Nat} {r : IM} (o0 : b < 102 ∨ 102 + 39 ≤ b)   {I : IM} (h : b_Mod_readImage_199 n J   I = some r) : r b = I b := by
  unfold b_Mod_readImage_199 at h
  have F : I b = I b := rfl
  cases h
  exact F
set_option maxRecDepth 20000 in
set_option maxHeartbeats 4000000 in
theorem fl_Mod_readImage_31 {n : Nat} {J : JM} {b : Nat} {r : IM} (o0 : b < 102 ∨ 102 + 39 ≤ b)  : ∀ (f : Nat) (x2 : Int32) (I : IM), l_Mod_readImage_31 n J  f x2 I = some r → r b = I b
  | 0, _, _, h => by cases h
  | f + 1, x2, I, h => by
    have ih := fl_Mod_readImage_31 (b := b) (r := r) (n := n)  (J := J) o0 f
    rw [l_Mod_readImage_31] at h
    have F : I b = I b := rfl
    refine em_t (c := 0 ≤ (I MO 14 : Int32)) (fun q9 => ?_) (fun q9 => ?_)
    · replace h := ite_t h q9
      exact (fb_Mod_readImage_199 o0  h).trans F
    · replace h := ite_f h q9
      obtain ⟨v10, e11, h⟩ := bnd_e h
      refine em_f (c := v10 = 0) (fun q12 => ?_) (fun q12 => ?_)
      · replace h := ite_f h q12
        exact (fb_Mod_readImage_199 o0  h).trans F
      · replace h := ite_t h q12
        refine em_t (c := x2 = 0) (fun q13 => ?_) (fun q13 => ?_)
        · replace h := ite_t h q13
          exact (fb_Mod_readImage_84 o0 ih h).trans F
        · replace h := ite_f h q13
          refine em_f (c := (I MO 10 : Int32) = (43 : Int32)) (fun q14 => ?_) (fun q14 => ?_)
          · replace h := ite_f h q14
            exact (fb_Mod_readImage_84 o0 ih h).trans F
          · replace h := ite_t h q14
            obtain ⟨v15, e16, h⟩ := bnd_e h
            replace F := (fr_Mod_step e16 (by first | omega | exact outA o0 (by decide))).trans F
            obtain ⟨v17, e18, h⟩ := bnd_e h
            replace F := (fr_Mod_takeAny e18 (by first | omega | exact outA o0 (by decide))).trans F
            refine em_t (c := (v17 MO 6 : Int32) = 0) (fun q19 => ?_) (fun q19 => ?_)
            · replace h := ite_t h q19
              exact (fb_Mod_readImage_188 o0 ih h).trans F
            · replace h := ite_f h q19
              obtain ⟨I20, hI20, h⟩ := lt_x h
              replace F := (show I20 b = _ from by first | exact fr_up hI20 (by first | omega | (intro e; subst e; revert o0; decide)) | exact fr_fil hI20 (by omega) | exact fr_cpy hI20 (by omega)).trans F
              exact (fb_Mod_readImage_188 o0 ih h).trans F
set_option maxRecDepth 20000 in
set_option maxHeartbeats 4000000 in
theorem fr_Mod_readImage {n : Nat} {J : JM} {x1 : Int32} {I : IM} {b : Nat} {r : IM}  (h : f_Mod_readImage n J x1 I = some r) (o0 : b < 102 ∨ 102 + 39 ≤ b) : r b = I b := by
  unfold f_Mod_readImage at h
  have F : I b = I b := rfl
  obtain ⟨c2, h⟩ := chk_e h
  obtain ⟨I1, hI1, h⟩ := lt_x h
  replace F := (show I1 b = _ from by first | exact fr_up hI1 (by first | omega | (intro e; subst e; revert o0; decide)) | exact fr_fil hI1 (by omega) | exact fr_cpy hI1 (by omega)).trans F
  obtain ⟨I3, hI3, h⟩ := lt_x h
  replace F := (show I3 b = _ from by first | exact fr_up hI3 (by first | omega | (intro e; subst e; revert o0; decide)) | exact fr_fil hI3 (by omega) | exact fr_cpy hI3 (by omega)).trans F
  obtain ⟨I4, hI4, h⟩ := lt_x h
  replace F := (show I4 b = _ from by first | exact fr_up hI4 (by first | omega | (intro e; subst e; revert o0; decide)) | exact fr_fil hI4 (by omega) | exact fr_cpy hI4 (by omega)).trans F
  obtain ⟨I5, hI5, h⟩ := lt_x h
  replace F := (show I5 b = _ from by first | exact fr_up hI5 (by first | omega | (intro e; subst e; revert o0; decide)) | exact fr_fil hI5 (by omega) | exact fr_cpy hI5 (by omega)).trans F
  obtain ⟨I6, hI6, h⟩ := lt_x h
  replace F := (show I6 b = _ from by first | exact fr_up hI6 (by first | omega | (intro e; subst e; revert o0; decide)) | exact fr_fil hI6 (by omega) | exact fr_cpy hI6 (by omega)).trans F
  obtain ⟨v7, e8, h⟩ := bnd_e h
  replace F := (fr_Mod_advance e8 (by first | omega | exact outA o0 (by decide))).trans F
  exact (fl_Mod_readImage_31 o0  _ _ _ h).trans F
set_option maxRecDepth 20000 in
set_option maxHeartbeats 4000000 in
theorem fr_Mod_image {n : Nat} {J : JM} {I : IM} {b : Nat} {r : Int32 × IM}  (h : f_Mod_image n J I = some r) (o0 : b < 102 ∨ 102 + 39 ≤ b) : r.2 b = I b := by
  unfold f_Mod_image at h
  have F : I b = I b := rfl
  obtain ⟨I1, hI1, h⟩ := lt_x h
  replace F := (show I1 b = _ from by first | exact fr_up hI1 (by first | omega | (intro e; subst e; revert o0; decide)) | exact fr_fil hI1 (by omega) | exact fr_cpy hI1 (by omega)).trans F
  obtain ⟨v2, e3, h⟩ := bnd_e h
  replace F := (fr_Mod_readImage e3 (by first | omega | exact outA o0 (by decide))).trans F
  refine em_t (c := (v2 MO 14 : Int32) < 0) (fun q4 => ?_) (fun q4 => ?_)
  · replace h := ite_t h q4
    obtain ⟨v5, e6, h⟩ := bnd_e h
    replace F := (fr_Mod_setUp e6 (by first | omega | exact outA o0 (by decide))).trans F
    obtain ⟨v7, e8, h⟩ := bnd_e h
    replace F := (fr_Mod_readImage e8 (by first | omega | exact outA o0 (by decide))).trans F
    cases h
    exact F
  · replace h := ite_f h q4
    cases h
    exact F
set_option maxRecDepth 20000 in
set_option maxHeartbeats 4000000 in
theorem fr_Mod_say {x1 : Int64} {I : IM} {b : Nat} {r : IM}  (h : f_Mod_say x1 I = some r) (o0 : b < 102 ∨ 102 + 39 ≤ b) : r b = I b := by
  unfold f_Mod_say at h
  have F : I b = I b := rfl
  obtain ⟨c1, h⟩ := chk_e h
  obtain ⟨I2, hI2, h⟩ := lt_x h
  replace F := (show I2 b = _ from by first | exact fr_up hI2 (by first | omega | (intro e; subst e; revert o0; decide)) | exact fr_fil hI2 (by omega) | exact fr_cpy hI2 (by omega)).trans F
  obtain ⟨I3, hI3, h⟩ := lt_x h
  replace F := (show I3 b = _ from by first | exact fr_up hI3 (by first | omega | (intro e; subst e; revert o0; decide)) | exact fr_fil hI3 (by omega) | exact fr_cpy hI3 (by omega)).trans F
  cases h
  exact F
set_option maxRecDepth 20000 in
set_option maxHeartbeats 4000000 in
theorem fl_Mod_sayWord_21 {n : Nat} {J : JM} {b : Nat} {r : IM} (o0 : b < 102 ∨ 102 + 39 ≤ b)  : ∀ (f : Nat) (x2 : Int64) (I : IM), l_Mod_sayWord_21 n J  f x2 I = some r → r b = I b
  | 0, _, _, h => by cases h
  | f + 1, x2, I, h => by
    have ih := fl_Mod_sayWord_21 (b := b) (r := r) (n := n)  (J := J) o0 f
    rw [l_Mod_sayWord_21] at h
    have F : I b = I b := rfl
    refine em_t (c := (lg_cmp (x2) (0) : Int32) ≤ 0) (fun q5 => ?_) (fun q5 => ?_)
    · replace h := ite_t h q5
      cases h
      exact F
    · replace h := ite_f h q5
      obtain ⟨v6, e7, h⟩ := bnd_e h
      replace F := (fr_Mod_say e7 (by first | omega | exact outA o0 (by decide))).trans F
      exact (ih _ _ h).trans F
set_option maxRecDepth 20000 in
set_option maxHeartbeats 4000000 in
theorem fb_Mod_sayWord_14 {n : Nat} {J : JM} {b : Nat} {r : IM} (o0 : b < 102 ∨ 102 + 39 ≤ b)  {x1 : Int32} {I : IM} (h : b_Mod_sayWord_14 n J  x1 I = some r) : r b = I b := by
  unfold b_Mod_sayWord_14 at h
  have F : I b = I b := rfl
  obtain ⟨c4, h⟩ := chk_e h
  exact (fl_Mod_sayWord_21 o0  _ _ _ h).trans F
set_option maxRecDepth 20000 in
set_option maxHeartbeats 4000000 in
theorem fr_Mod_sayWord {n : Nat} {J : JM} {x1 : Int32} {I : IM} {b : Nat} {r : IM}  (h : f_Mod_sayWord n J x1 I = some r) (o0 : b < 102 ∨ 102 + 39 ≤ b) : r b = I b := by
  unfold f_Mod_sayWord at h
  have F : I b = I b := rfl
  refine em_t (c := (I MO 8 : Int32) ≤ 0) (fun q1 => ?_) (fun q1 => ?_)
  · replace h := ite_t h q1
    exact (fb_Mod_sayWord_14 o0  h).trans F
  · replace h := ite_f h q1
    obtain ⟨v2, e3, h⟩ := bnd_e h
    replace F := (fr_Mod_say e3 (by first | omega | exact outA o0 (by decide))).trans F
    exact (fb_Mod_sayWord_14 o0  h).trans F
set_option maxRecDepth 20000 in
set_option maxHeartbeats 4000000 in
theorem fl_Mod_sayNumber_56 {n : Nat} {b : Nat} {r : IM} (o0 : b < 102 ∨ 102 + 39 ≤ b)  : ∀ (f : Nat) (x2 : Int64) (x4 : Int64) (I : IM), l_Mod_sayNumber_56 n  f x2 x4 I = some r → r b = I b
  | 0, _, _, _, h => by cases h
  | f + 1, x2, x4, I, h => by
    have ih := fl_Mod_sayNumber_56 (b := b) (r := r) (n := n)   o0 f
    rw [l_Mod_sayNumber_56] at h
    have F : I b = I b := rfl
    refine em_t (c := (lg_cmp (x4) (0) : Int32) ≤ 0) (fun q9 => ?_) (fun q9 => ?_)
    · replace h := ite_t h q9
      cases h
      exact F
    · replace h := ite_f h q9
      obtain ⟨c10, h⟩ := chk_e h
      obtain ⟨v11, e12, h⟩ := bnd_e h
      replace F := (fr_Mod_say e12 (by first | omega | exact outA o0 (by decide))).trans F
      exact (ih _ _ _ h).trans F
set_option maxRecDepth 20000 in
set_option maxHeartbeats 4000000 in
theorem fl_Mod_sayNumber_34 {n : Nat} {b : Nat} {r : IM} (o0 : b < 102 ∨ 102 + 39 ≤ b)  : ∀ (f : Nat) (x2 : Int64) (x4 : Int64) (I : IM), l_Mod_sayNumber_34 n  f x2 x4 I = some r → r b = I b
  | 0, _, _, _, h => by cases h
  | f + 1, x2, x4, I, h => by
    have ih := fl_Mod_sayNumber_34 (b := b) (r := r) (n := n)   o0 f
    rw [l_Mod_sayNumber_34] at h
    have F : I b = I b := rfl
    obtain ⟨c7, h⟩ := chk_e h
    refine em_t (c := (lg_cmp ((x2) / (x4)) (9) : Int32) ≤ 0) (fun q8 => ?_) (fun q8 => ?_)
    · replace h := ite_t h q8
      exact (fl_Mod_sayNumber_56 o0  _ _ _ _ h).trans F
    · replace h := ite_f h q8
      exact (ih _ _ _ h).trans F
set_option maxRecDepth 20000 in
set_option maxHeartbeats 4000000 in
theorem fb_Mod_sayNumber_30 {n : Nat} {b : Nat} {r : IM} (o0 : b < 102 ∨ 102 + 39 ≤ b)  {y0 : Int64} {I : IM} (h : b_Mod_sayNumber_30 n  y0 I = some r) : r b = I b := by
  unfold b_Mod_sayNumber_30 at h
  have F : I b = I b := rfl
  exact (fl_Mod_sayNumber_34 o0  _ _ _ _ h).trans F
set_option maxRecDepth 20000 in
set_option maxHeartbeats 4000000 in
theorem fb_Mod_sayNumber_18 {n : Nat} {b : Nat} {r : IM} (o0 : b < 102 ∨ 102 + 39 ≤ b)  {x1 : Int32} {I : IM} (h : b_Mod_sayNumber_18 n  x1 I = some r) : r b = I b := by
  unfold b_Mod_sayNumber_18 at h
  have F : I b = I b := rfl
  refine em_t (c := 0 ≤ x1) (fun q6 => ?_) (fun q6 => ?_)
  · replace h := ite_t h q6
    exact (fb_Mod_sayNumber_30 o0  h).trans F
  · replace h := ite_f h q6
    exact (fb_Mod_sayNumber_30 o0  h).trans F
set_option maxRecDepth 20000 in
set_option maxHeartbeats 4000000 in
theorem fr_Mod_sayNumber {n : Nat} {x1 : Int32} {I : IM} {b : Nat} {r : IM}  (h : f_Mod_sayNumber n x1 I = some r) (o0 : b < 102 ∨ 102 + 39 ≤ b) : r b = I b := by
  unfold f_Mod_sayNumber at h
  have F : I b = I b := rfl
  obtain ⟨v1, e2, h⟩ := bnd_e h
  replace F := (fr_Mod_say e2 (by first | omega | exact outA o0 (by decide))).trans F
  refine em_t (c := 0 ≤ x1) (fun q3 => ?_) (fun q3 => ?_)
  · replace h := ite_t h q3
    exact (fb_Mod_sayNumber_18 o0  h).trans F
  · replace h := ite_f h q3
    obtain ⟨v4, e5, h⟩ := bnd_e h
    replace F := (fr_Mod_say e5 (by first | omega | exact outA o0 (by decide))).trans F
    exact (fb_Mod_sayNumber_18 o0  h).trans F
set_option maxRecDepth 20000 in
set_option maxHeartbeats 4000000 in
theorem fb_Mod_sayPart_14 {n : Nat} {J : JM} {b : Nat} {r : IM} (o0 : b < 102 ∨ 102 + 39 ≤ b)   {I : IM} (h : b_Mod_sayPart_14 n J   I = some r) : r b = I b := by
  unfold b_Mod_sayPart_14 at h
  have F : I b = I b := rfl
  cases h
  exact F
set_option maxRecDepth 20000 in
set_option maxHeartbeats 4000000 in
theorem fr_Mod_sayPart {n : Nat} {J : JM} {x1 : Int32} {x2 : Int32} {I : IM} {b : Nat} {r : IM}  (h : f_Mod_sayPart n J x1 x2 I = some r) (o0 : b < 102 ∨ 102 + 39 ≤ b) : r b = I b := by
  unfold f_Mod_sayPart at h
  have F : I b = I b := rfl
  refine em_t (c := x2 = 0) (fun q1 => ?_) (fun q1 => ?_)
  · replace h := ite_t h q1
    exact (fb_Mod_sayPart_14 o0  h).trans F
  · replace h := ite_f h q1
    obtain ⟨v2, e3, h⟩ := bnd_e h
    replace F := (fr_Mod_sayWord e3 (by first | omega | exact outA o0 (by decide))).trans F
    obtain ⟨v4, e5, h⟩ := bnd_e h
    replace F := (fr_Mod_sayNumber e5 (by first | omega | exact outA o0 (by decide))).trans F
    exact (fb_Mod_sayPart_14 o0  h).trans F
set_option maxRecDepth 20000 in
set_option maxHeartbeats 4000000 in
theorem fb_Mod_listing_153 {n : Nat} {J : JM} {b : Nat} {r : Int32 × IM} (o0 : b < 102 ∨ 102 + 39 ≤ b)  {y0 : Int32} {I : IM} (h : b_Mod_listing_153 n J  y0 I = some r) : r.2 b = I b := by
  unfold b_Mod_listing_153 at h
  have F : I b = I b := rfl
  cases h
  exact F
set_option maxRecDepth 20000 in
set_option maxHeartbeats 4000000 in
theorem fb_Mod_listing_75 {n : Nat} {J : JM} {b : Nat} {r : Int32 × IM} (o0 : b < 102 ∨ 102 + 39 ≤ b)  {x1 : Int32} {x2 : Int32} {x3 : Int32} {I : IM} (h : b_Mod_listing_75 n J  x1 x2 x3 I = some r) : r.2 b = I b := by
  unfold b_Mod_listing_75 at h
  have F : I b = I b := rfl
  obtain ⟨v17, e18, h⟩ := bnd_e h
  replace F := (fr_Mod_sayPart e18 (by first | omega | exact outA o0 (by decide))).trans F
  obtain ⟨v19, e20, h⟩ := bnd_e h
  replace F := (fr_Mod_sayPart e20 (by first | omega | exact outA o0 (by decide))).trans F
  obtain ⟨v21, e22, h⟩ := bnd_e h
  replace F := (fr_Mod_sayPart e22 (by first | omega | exact outA o0 (by decide))).trans F
  obtain ⟨v23, e24, h⟩ := bnd_e h
  replace F := (fr_Mod_sayPart e24 (by first | omega | exact outA o0 (by decide))).trans F
  obtain ⟨c25, h⟩ := chk_e h
  obtain ⟨v26, e27, h⟩ := bnd_e h
  replace F := (fr_Mod_sayPart e27 (by first | omega | exact outA o0 (by decide))).trans F
  refine em_t (c := (v26 MO 8 : Int32) ≤ x2) (fun q28 => ?_) (fun q28 => ?_)
  · replace h := ite_t h q28
    exact (fb_Mod_listing_153 o0  h).trans F
  · replace h := ite_f h q28
    obtain ⟨c29, h⟩ := chk_e h
    exact (fb_Mod_listing_153 o0  h).trans F
set_option maxRecDepth 20000 in
set_option maxHeartbeats 4000000 in
theorem fr_Mod_listing {n : Nat} {J : JM} {x1 : Int32} {x2 : Int32} {I : IM} {b : Nat} {r : Int32 × IM}  (h : f_Mod_listing n J x1 x2 I = some r) (o0 : b < 102 ∨ 102 + 39 ≤ b) : r.2 b = I b := by
  unfold f_Mod_listing at h
  have F : I b = I b := rfl
  obtain ⟨v1, e2, h⟩ := bnd_e h
  obtain ⟨v5, e6, h⟩ := bnd_e h
  replace F := (fr_Mod_refuse e6 (by first | omega | exact outA o0 (by decide))).trans F
  refine em_t (c := (v5.1 : Int32) = 0) (fun q7 => ?_) (fun q7 => ?_)
  · replace h := ite_t h q7
    obtain ⟨c8, h⟩ := chk_e h
    obtain ⟨I9, hI9, h⟩ := lt_x h
    replace F := (show I9 b = _ from by first | exact fr_up hI9 (by first | omega | (intro e; subst e; revert o0; decide)) | exact fr_fil hI9 (by omega) | exact fr_cpy hI9 (by omega)).trans F
    refine em_t (c := (22 : Int32) ≤ ((v5.2 A_code x1.toNatClampNeg) &&& 31 : Int32)) (fun q10 => ?_) (fun q10 => ?_)
    · replace h := ite_t h q10
      obtain ⟨v11, e12, h⟩ := bnd_e h
      replace F := (fr_Mod_sayWord e12 (by first | omega | exact outA o0 (by decide))).trans F
      obtain ⟨v13, e14, h⟩ := bnd_e h
      replace F := (fr_Mod_sayNumber e14 (by first | omega | exact outA o0 (by decide))).trans F
      exact (fb_Mod_listing_75 o0  h).trans F
    · replace h := ite_f h q10
      obtain ⟨v15, e16, h⟩ := bnd_e h
      replace F := (fr_Mod_sayWord e16 (by first | omega | exact outA o0 (by decide))).trans F
      exact (fb_Mod_listing_75 o0  h).trans F
  · replace h := ite_f h q7
    cases h
    exact F
set_option maxRecDepth 20000 in
set_option maxHeartbeats 4000000 in
theorem fb_Mod_codeOf_63 {b : Nat} {r : Int32 × IM} (o0 : b < 102 ∨ 102 + 39 ≤ b)  {y0 : Int32} {I : IM} (h : b_Mod_codeOf_63   y0 I = some r) : r.2 b = I b := by
  unfold b_Mod_codeOf_63 at h
  have F : I b = I b := rfl
  cases h
  exact F
set_option maxRecDepth 20000 in
set_option maxHeartbeats 4000000 in
theorem fb_Mod_codeOf_36 {b : Nat} {r : Int32 × IM} (o0 : b < 102 ∨ 102 + 39 ≤ b)  {x1 : Int32} {x2 : Int32} {y2 : Int32} {y1 : Int32} {I : IM} (h : b_Mod_codeOf_36   x1 x2 y2 y1 I = some r) : r.2 b = I b := by
  unfold b_Mod_codeOf_36 at h
  have F : I b = I b := rfl
  obtain ⟨v14, e15, h⟩ := bnd_e h
  replace F := (fr_Mod_refuse e15 (by first | omega | exact outA o0 (by decide))).trans F
  refine em_t (c := (v14.1 : Int32) = 0) (fun q16 => ?_) (fun q16 => ?_)
  · replace h := ite_t h q16
    refine em_f (c := x2 = 0) (fun q17 => ?_) (fun q17 => ?_)
    · replace h := ite_f h q17
      obtain ⟨c18, h⟩ := chk_e h
      exact (fb_Mod_codeOf_63 o0  h).trans F
    · replace h := ite_t h q17
      obtain ⟨c19, h⟩ := chk_e h
      exact (fb_Mod_codeOf_63 o0  h).trans F
  · replace h := ite_f h q16
    cases h
    exact F
set_option maxRecDepth 20000 in
set_option maxHeartbeats 4000000 in
theorem fb_Mod_codeOf_35 {b : Nat} {r : Int32 × IM} (o0 : b < 102 ∨ 102 + 39 ≤ b)  {x1 : Int32} {x2 : Int32} {y1 : Int32} {I : IM} (h : b_Mod_codeOf_35   x1 x2 y1 I = some r) : r.2 b = I b := by
  unfold b_Mod_codeOf_35 at h
  have F : I b = I b := rfl
  exact (fb_Mod_codeOf_36 o0  h).trans F
set_option maxRecDepth 20000 in
set_option maxHeartbeats 4000000 in
theorem fr_Mod_codeOf {x1 : Int32} {x2 : Int32} {I : IM} {b : Nat} {r : Int32 × IM}  (h : f_Mod_codeOf x1 x2 I = some r) (o0 : b < 102 ∨ 102 + 39 ≤ b) : r.2 b = I b := by
  unfold f_Mod_codeOf at h
  have F : I b = I b := rfl
  obtain ⟨v1, e2, h⟩ := bnd_e h
  refine em_t (c := v1 = 0) (fun q4 => ?_) (fun q4 => ?_)
  · replace h := ite_t h q4
    exact (fb_Mod_codeOf_35 o0  h).trans F
  · replace h := ite_f h q4
    obtain ⟨v5, e6, h⟩ := bnd_e h
    obtain ⟨v8, e9, h⟩ := bnd_e h
    replace F := (fr_Mod_refuse e9 (by first | omega | exact outA o0 (by decide))).trans F
    refine em_t (c := (v8.1 : Int32) = 0) (fun q10 => ?_) (fun q10 => ?_)
    · replace h := ite_t h q10
      refine em_f (c := x2 = 0) (fun q11 => ?_) (fun q11 => ?_)
      · replace h := ite_f h q11
        obtain ⟨c12, h⟩ := chk_e h
        exact (fb_Mod_codeOf_63 o0  h).trans F
      · replace h := ite_t h q11
        obtain ⟨c13, h⟩ := chk_e h
        exact (fb_Mod_codeOf_63 o0  h).trans F
    · replace h := ite_f h q10
      cases h
      exact F
set_option maxRecDepth 20000 in
set_option maxHeartbeats 4000000 in
theorem fb_Mod_pairNumber_36 {n : Nat} {b : Nat} {r : Int32 × IM} (o0 : b < 102 ∨ 102 + 39 ≤ b) {H2 : Int32 → Int32 → Int32 → IM → Option (Int32 × IM)} (hH2 : ∀ (x1 : Int32) (x2 : Int32) (x3 : Int32) (I : IM), H2 x1 x2 x3 I = some r → r.2 b = I b) {x1 : Int32} {x2 : Int32} {x3 : Int32} {I : IM} (h : b_Mod_pairNumber_36 n H2 x1 x2 x3 I = some r) : r.2 b = I b := by
  unfold b_Mod_pairNumber_36 at h
  have F : I b = I b := rfl
  exact (hH2 _ _ _ _ h).trans F
set_option maxRecDepth 20000 in
set_option maxHeartbeats 4000000 in
theorem fl_Mod_pairNumber_2 {n : Nat} {b : Nat} {r : Int32 × IM} (o0 : b < 102 ∨ 102 + 39 ≤ b)  : ∀ (f : Nat) (x1 : Int32) (x2 : Int32) (x3 : Int32) (I : IM), l_Mod_pairNumber_2 n  f x1 x2 x3 I = some r → r.2 b = I b
  | 0, _, _, _, _, h => by cases h
  | f + 1, x1, x2, x3, I, h => by
    have ih := fl_Mod_pairNumber_2 (b := b) (r := r) (n := n)   o0 f
    rw [l_Mod_pairNumber_2] at h
    have F : I b = I b := rfl
    refine em_t (c := (I MO 55 : Int32) ≤ x3) (fun q1 => ?_) (fun q1 => ?_)
    · replace h := ite_t h q1
      refine em_f (c := (I MO 55 : Int32) = (60 : Int32)) (fun q2 => ?_) (fun q2 => ?_)
      · replace h := ite_f h q2
        obtain ⟨c3, h⟩ := chk_e h
        obtain ⟨I4, hI4, h⟩ := lt_x h
        replace F := (show I4 b = _ from by first | exact fr_up hI4 (by first | omega | (intro e; subst e; revert o0; decide)) | exact fr_fil hI4 (by omega) | exact fr_cpy hI4 (by omega)).trans F
        obtain ⟨c5, h⟩ := chk_e h
        obtain ⟨I6, hI6, h⟩ := lt_x h
        replace F := (show I6 b = _ from by first | exact fr_up hI6 (by first | omega | (intro e; subst e; revert o0; decide)) | exact fr_fil hI6 (by omega) | exact fr_cpy hI6 (by omega)).trans F
        obtain ⟨I7, hI7, h⟩ := lt_x h
        replace F := (show I7 b = _ from by first | exact fr_up hI7 (by first | omega | (intro e; subst e; revert o0; decide)) | exact fr_fil hI7 (by omega) | exact fr_cpy hI7 (by omega)).trans F
        cases h
        exact F
      · replace h := ite_t h q2
        obtain ⟨I8, hI8, h⟩ := lt_x h
        replace F := (show I8 b = _ from by first | exact fr_up hI8 (by first | omega | (intro e; subst e; revert o0; decide)) | exact fr_fil hI8 (by omega) | exact fr_cpy hI8 (by omega)).trans F
        cases h
        exact F
    · replace h := ite_f h q1
      obtain ⟨c9, h⟩ := chk_e h
      refine em_f (c := (I A_firsts x3.toNatClampNeg : Int32) = x1) (fun q10 => ?_) (fun q10 => ?_)
      · replace h := ite_f h q10
        exact (fb_Mod_pairNumber_36 o0 ih h).trans F
      · replace h := ite_t h q10
        refine em_f (c := (I A_seconds x3.toNatClampNeg : Int32) = x2) (fun q11 => ?_) (fun q11 => ?_)
        · replace h := ite_f h q11
          exact (fb_Mod_pairNumber_36 o0 ih h).trans F
        · replace h := ite_t h q11
          cases h
          exact F
set_option maxRecDepth 20000 in
set_option maxHeartbeats 4000000 in
theorem fr_Mod_pairNumber {n : Nat} {x1 : Int32} {x2 : Int32} {I : IM} {b : Nat} {r : Int32 × IM}  (h : f_Mod_pairNumber n x1 x2 I = some r) (o0 : b < 102 ∨ 102 + 39 ≤ b) : r.2 b = I b := by
  unfold f_Mod_pairNumber at h
  have F : I b = I b := rfl
  exact (fl_Mod_pairNumber_2 o0  _ _ _ _ _ h).trans F
set_option maxRecDepth 20000 in
set_option maxHeartbeats 4000000 in
theorem fr_Mod_two {n : Nat} {x1 : Int32} {x2 : Int32} {x3 : Int32} {I : IM} {b : Nat} {r : Int32 × IM}  (h : f_Mod_two n x1 x2 x3 I = some r) (o0 : b < 102 ∨ 102 + 39 ≤ b) : r.2 b = I b := by
  unfold f_Mod_two at h
  have F : I b = I b := rfl
  refine em_t (c := x1 = 38) (fun q2 => ?_) (fun q2 => ?_)
  · replace h := ite_t h q2
    cases h
    exact F
  · replace h := ite_f h q2
    refine em_t (c := x1 = 43) (fun q3 => ?_) (fun q3 => ?_)
    · replace h := ite_t h q3
      cases h
      exact F
    · replace h := ite_f h q3
      refine em_t (c := x1 = 45) (fun q4 => ?_) (fun q4 => ?_)
      · replace h := ite_t h q4
        cases h
        exact F
      · replace h := ite_f h q4
        refine em_t (c := x1 = 60) (fun q5 => ?_) (fun q5 => ?_)
        · replace h := ite_t h q5
          cases h
          exact F
        · replace h := ite_f h q5
          refine em_t (c := x1 = 94) (fun q7 => ?_) (fun q7 => ?_)
          · replace h := ite_t h q7
            cases h
            exact F
          · replace h := ite_f h q7
            refine em_t (c := x1 = 124) (fun q8 => ?_) (fun q8 => ?_)
            · replace h := ite_t h q8
              cases h
              exact F
            · replace h := ite_f h q8
              refine em_t (c := x1 = 202) (fun q9 => ?_) (fun q9 => ?_)
              · replace h := ite_t h q9
                cases h
                exact F
              · replace h := ite_f h q9
                refine em_t (c := x1 = 203) (fun q11 => ?_) (fun q11 => ?_)
                · replace h := ite_t h q11
                  cases h
                  exact F
                · replace h := ite_f h q11
                  refine em_t (c := x1 = 204) (fun q13 => ?_) (fun q13 => ?_)
                  · replace h := ite_t h q13
                    cases h
                    exact F
                  · replace h := ite_f h q13
                    obtain ⟨v15, e16, h⟩ := bnd_e h
                    replace F := (fr_Mod_pairNumber e16 (by first | omega | exact outA o0 (by decide))).trans F
                    cases h
                    exact F
set_option maxRecDepth 20000 in
set_option maxHeartbeats 4000000 in
theorem fb_Mod_signed_83 {n : Nat} {b : Nat} {r : Int32 × IM} (o0 : b < 102 ∨ 102 + 39 ≤ b)  {x2 : Int32} {I : IM} (h : b_Mod_signed_83 n  x2 I = some r) : r.2 b = I b := by
  unfold b_Mod_signed_83 at h
  have F : I b = I b := rfl
  cases h
  exact F
set_option maxRecDepth 20000 in
set_option maxHeartbeats 4000000 in
theorem fr_Mod_signed {n : Nat} {x1 : Int32} {x2 : Int32} {I : IM} {b : Nat} {r : Int32 × IM}  (h : f_Mod_signed n x1 x2 I = some r) (o0 : b < 102 ∨ 102 + 39 ≤ b) : r.2 b = I b := by
  unfold f_Mod_signed at h
  have F : I b = I b := rfl
  obtain ⟨v1, e2, h⟩ := bnd_e h
  refine em_t (c := v1 = 0) (fun q3 => ?_) (fun q3 => ?_)
  · replace h := ite_t h q3
    obtain ⟨I4, hI4, h⟩ := lt_x h
    replace F := (show I4 b = _ from by first | exact fr_up hI4 (by first | omega | (intro e; subst e; revert o0; decide)) | exact fr_fil hI4 (by omega) | exact fr_cpy hI4 (by omega)).trans F
    obtain ⟨c5, h⟩ := chk_e h
    obtain ⟨c6, h⟩ := chk_e h
    obtain ⟨v7, e8, h⟩ := bnd_e h
    replace F := (fr_Mod_two e8 (by first | omega | exact outA o0 (by decide))).trans F
    obtain ⟨I9, hI9, h⟩ := lt_x h
    replace F := (show I9 b = _ from by first | exact fr_up hI9 (by first | omega | (intro e; subst e; revert o0; decide)) | exact fr_fil hI9 (by omega) | exact fr_cpy hI9 (by omega)).trans F
    exact (fb_Mod_signed_83 o0  h).trans F
  · replace h := ite_f h q3
    obtain ⟨c10, h⟩ := chk_e h
    obtain ⟨v11, e12, h⟩ := bnd_e h
    obtain ⟨I13, hI13, h⟩ := lt_x h
    replace F := (show I13 b = _ from by first | exact fr_up hI13 (by first | omega | (intro e; subst e; revert o0; decide)) | exact fr_fil hI13 (by omega) | exact fr_cpy hI13 (by omega)).trans F
    exact (fb_Mod_signed_83 o0  h).trans F
set_option maxRecDepth 20000 in
set_option maxHeartbeats 4000000 in
theorem fb_Mod_work_183 {n : Nat} {b : Nat} {r : Int32 × IM} (o0 : b < 102 ∨ 102 + 39 ≤ b) {H7 : Int32 → Int32 → IM → Option (Int32 × IM)} (hH7 : ∀ (x2 : Int32) (x3 : Int32) (I : IM), H7 x2 x3 I = some r → r.2 b = I b) {x2 : Int32} {x3 : Int32} {I : IM} (h : b_Mod_work_183 n H7 x2 x3 I = some r) : r.2 b = I b := by
  unfold b_Mod_work_183 at h
  have F : I b = I b := rfl
  exact (hH7 _ _ _ h).trans F
set_option maxRecDepth 20000 in
set_option maxHeartbeats 4000000 in
theorem fb_Mod_work_151 {n : Nat} {b : Nat} {r : Int32 × IM} (o0 : b < 102 ∨ 102 + 39 ≤ b) {H7 : Int32 → Int32 → IM → Option (Int32 × IM)} (hH7 : ∀ (x2 : Int32) (x3 : Int32) (I : IM), H7 x2 x3 I = some r → r.2 b = I b) {x2 : Int32} {y0 : Int32} {I : IM} (h : b_Mod_work_151 n H7 x2 y0 I = some r) : r.2 b = I b := by
  unfold b_Mod_work_151 at h
  have F : I b = I b := rfl
  exact (fb_Mod_work_183 o0 hH7 h).trans F
set_option maxRecDepth 20000 in
set_option maxHeartbeats 4000000 in
theorem fb_Mod_work_208 {n : Nat} {b : Nat} {r : Int32 × IM} (o0 : b < 102 ∨ 102 + 39 ≤ b)  {y0 : Int32} {I : IM} (h : b_Mod_work_208 n  y0 I = some r) : r.2 b = I b := by
  unfold b_Mod_work_208 at h
  have F : I b = I b := rfl
  cases h
  exact F
set_option maxRecDepth 20000 in
set_option maxHeartbeats 4000000 in
theorem fb_Mod_work_186 {n : Nat} {b : Nat} {r : Int32 × IM} (o0 : b < 102 ∨ 102 + 39 ≤ b)   {I : IM} (h : b_Mod_work_186 n   I = some r) : r.2 b = I b := by
  unfold b_Mod_work_186 at h
  have F : I b = I b := rfl
  refine em_t (c := (I MO 86 : Int32) ≤ 0) (fun q25 => ?_) (fun q25 => ?_)
  · replace h := ite_t h q25
    exact (fb_Mod_work_208 o0  h).trans F
  · replace h := ite_f h q25
    obtain ⟨c26, h⟩ := chk_e h
    exact (fb_Mod_work_208 o0  h).trans F
set_option maxRecDepth 20000 in
set_option maxHeartbeats 4000000 in
theorem fl_Mod_work_7 {n : Nat} {b : Nat} {r : Int32 × IM} (o0 : b < 102 ∨ 102 + 39 ≤ b)  : ∀ (f : Nat) (x2 : Int32) (x3 : Int32) (I : IM), l_Mod_work_7 n  f x2 x3 I = some r → r.2 b = I b
  | 0, _, _, _, h => by cases h
  | f + 1, x2, x3, I, h => by
    have ih := fl_Mod_work_7 (b := b) (r := r) (n := n)   o0 f
    rw [l_Mod_work_7] at h
    have F : I b = I b := rfl
    refine em_t (c := x2 ≤ x3) (fun q2 => ?_) (fun q2 => ?_)
    · replace h := ite_t h q2
      exact (fb_Mod_work_186 o0  h).trans F
    · replace h := ite_f h q2
      refine em_t (c := (I MO 82 : Int32) = (4 : Int32)) (fun q3 => ?_) (fun q3 => ?_)
      · replace h := ite_t h q3
        exact (fb_Mod_work_186 o0  h).trans F
      · replace h := ite_f h q3
        obtain ⟨c4, h⟩ := chk_e h
        refine em_f (c := (I A_code0 x3.toNatClampNeg : Int32) = (300 : Int32)) (fun q5 => ?_) (fun q5 => ?_)
        · replace h := ite_f h q5
          refine em_t (c := (I A_code0 x3.toNatClampNeg : Int32) < (500 : Int32)) (fun q6 => ?_) (fun q6 => ?_)
          · replace h := ite_t h q6
            refine em_f (c := (I A_code0 x3.toNatClampNeg : Int32) = (303 : Int32)) (fun q7 => ?_) (fun q7 => ?_)
            · replace h := ite_f h q7
              refine em_f (c := (I A_code0 x3.toNatClampNeg : Int32) = (302 : Int32)) (fun q8 => ?_) (fun q8 => ?_)
              · replace h := ite_f h q8
                obtain ⟨v9, e10, h⟩ := bnd_e h
                replace F := (fr_Mod_signed e10 (by first | omega | exact outA o0 (by decide))).trans F
                exact (fb_Mod_work_183 o0 ih h).trans F
              · replace h := ite_t h q8
                obtain ⟨c11, h⟩ := chk_e h
                exact (fb_Mod_work_183 o0 ih h).trans F
            · replace h := ite_t h q7
              obtain ⟨I12, hI12, h⟩ := lt_x h
              replace F := (show I12 b = _ from by first | exact fr_up hI12 (by first | omega | (intro e; subst e; revert o0; decide)) | exact fr_fil hI12 (by omega) | exact fr_cpy hI12 (by omega)).trans F
              obtain ⟨c13, h⟩ := chk_e h
              refine em_f (c := (I12 A_stack (I12 MO 86 : Int32).toNatClampNeg : Int32) = 0) (fun q14 => ?_) (fun q14 => ?_)
              · replace h := ite_f h q14
                exact (fb_Mod_work_151 o0 ih h).trans F
              · replace h := ite_t h q14
                obtain ⟨c15, h⟩ := chk_e h
                exact (fb_Mod_work_151 o0 ih h).trans F
          · replace h := ite_f h q6
            obtain ⟨v16, e17, h⟩ := bnd_e h
            obtain ⟨c18, h⟩ := chk_e h
            obtain ⟨I19, hI19, h⟩ := lt_x h
            replace F := (show I19 b = _ from by first | exact fr_up hI19 (by first | omega | (intro e; subst e; revert o0; decide)) | exact fr_fil hI19 (by omega) | exact fr_cpy hI19 (by omega)).trans F
            obtain ⟨I20, hI20, h⟩ := lt_x h
            replace F := (show I20 b = _ from by first | exact fr_up hI20 (by first | omega | (intro e; subst e; revert o0; decide)) | exact fr_fil hI20 (by omega) | exact fr_cpy hI20 (by omega)).trans F
            exact (fb_Mod_work_183 o0 ih h).trans F
        · replace h := ite_t h q5
          obtain ⟨c21, h⟩ := chk_e h
          obtain ⟨c22, h⟩ := chk_e h
          obtain ⟨I23, hI23, h⟩ := lt_x h
          replace F := (show I23 b = _ from by first | exact fr_up hI23 (by first | omega | (intro e; subst e; revert o0; decide)) | exact fr_fil hI23 (by omega) | exact fr_cpy hI23 (by omega)).trans F
          obtain ⟨I24, hI24, h⟩ := lt_x h
          replace F := (show I24 b = _ from by first | exact fr_up hI24 (by first | omega | (intro e; subst e; revert o0; decide)) | exact fr_fil hI24 (by omega) | exact fr_cpy hI24 (by omega)).trans F
          exact (fb_Mod_work_183 o0 ih h).trans F
set_option maxRecDepth 20000 in
set_option maxHeartbeats 4000000 in
theorem fr_Mod_work {n : Nat} {x1 : Int32} {x2 : Int32} {I : IM} {b : Nat} {r : Int32 × IM}  (h : f_Mod_work n x1 x2 I = some r) (o0 : b < 102 ∨ 102 + 39 ≤ b) : r.2 b = I b := by
  unfold f_Mod_work at h
  have F : I b = I b := rfl
  obtain ⟨I1, hI1, h⟩ := lt_x h
  replace F := (show I1 b = _ from by first | exact fr_up hI1 (by first | omega | (intro e; subst e; revert o0; decide)) | exact fr_fil hI1 (by omega) | exact fr_cpy hI1 (by omega)).trans F
  exact (fl_Mod_work_7 o0  _ _ _ _ h).trans F
set_option maxRecDepth 20000 in
set_option maxHeartbeats 4000000 in
theorem fb_Mod_rule_227 {n : Nat} {b : Nat} {r : IM} (o0 : b < 102 ∨ 102 + 39 ≤ b) {H141 : Int32 → Int32 → IM → Option (IM)} (hH141 : ∀ (x1 : Int32) (x2 : Int32) (I : IM), H141 x1 x2 I = some r → r b = I b) {x1 : Int32} {x2 : Int32} {x3 : Int32} {x4 : Int32} {I : IM} (h : b_Mod_rule_227 n H141 x1 x2 x3 x4 I = some r) : r b = I b := by
  unfold b_Mod_rule_227 at h
  have F : I b = I b := rfl
  obtain ⟨I30, hI30, h⟩ := lt_x h
  replace F := (show I30 b = _ from by first | exact fr_up hI30 (by first | omega | (intro e; subst e; revert o0; decide)) | exact fr_fil hI30 (by omega) | exact fr_cpy hI30 (by omega)).trans F
  obtain ⟨I32, hI32, h⟩ := lt_x h
  replace F := (show I32 b = _ from by first | exact fr_up hI32 (by first | omega | (intro e; subst e; revert o0; decide)) | exact fr_fil hI32 (by omega) | exact fr_cpy hI32 (by omega)).trans F
  obtain ⟨I34, hI34, h⟩ := lt_x h
  replace F := (show I34 b = _ from by first | exact fr_up hI34 (by first | omega | (intro e; subst e; revert o0; decide)) | exact fr_fil hI34 (by omega) | exact fr_cpy hI34 (by omega)).trans F
  exact (hH141 _ _ _ h).trans F
set_option maxRecDepth 20000 in
set_option maxHeartbeats 4000000 in
theorem fb_Mod_rule_224 {n : Nat} {b : Nat} {r : IM} (o0 : b < 102 ∨ 102 + 39 ≤ b) {H141 : Int32 → Int32 → IM → Option (IM)} (hH141 : ∀ (x1 : Int32) (x2 : Int32) (I : IM), H141 x1 x2 I = some r → r b = I b) {x1 : Int32} {x2 : Int32} {x3 : Int32} {x4 : Int32} {y1 : Int32} {I : IM} (h : b_Mod_rule_224 n H141 x1 x2 x3 x4 y1 I = some r) : r b = I b := by
  unfold b_Mod_rule_224 at h
  have F : I b = I b := rfl
  obtain ⟨I28, hI28, h⟩ := lt_x h
  replace F := (show I28 b = _ from by first | exact fr_up hI28 (by first | omega | (intro e; subst e; revert o0; decide)) | exact fr_fil hI28 (by omega) | exact fr_cpy hI28 (by omega)).trans F
  exact (fb_Mod_rule_227 o0 hH141 h).trans F
set_option maxRecDepth 20000 in
set_option maxHeartbeats 4000000 in
theorem fb_Mod_rule_290 {n : Nat} {b : Nat} {r : IM} (o0 : b < 102 ∨ 102 + 39 ≤ b)   {I : IM} (h : b_Mod_rule_290 n   I = some r) : r b = I b := by
  unfold b_Mod_rule_290 at h
  have F : I b = I b := rfl
  cases h
  exact F
set_option maxRecDepth 20000 in
set_option maxHeartbeats 4000000 in
theorem fl_Mod_rule_141 {n : Nat} {b : Nat} {r : IM} (o0 : b < 102 ∨ 102 + 39 ≤ b)  : ∀ (f : Nat) (x1 : Int32) (x2 : Int32) (I : IM), l_Mod_rule_141 n  f x1 x2 I = some r → r b = I b
  | 0, _, _, _, h => by cases h
  | f + 1, x1, x2, I, h => by
    have ih := fl_Mod_rule_141 (b := b) (r := r) (n := n)   o0 f
    rw [l_Mod_rule_141] at h
    have F : I b = I b := rfl
    obtain ⟨c16, h⟩ := chk_e h
    refine em_t (c := (I A_ruleTo x1.toNatClampNeg : Int32) ≤ x2) (fun q17 => ?_) (fun q17 => ?_)
    · replace h := ite_t h q17
      exact (fb_Mod_rule_290 o0  h).trans F
    · replace h := ite_f h q17
      refine em_f (c := (I MO 82 : Int32) = 0) (fun q18 => ?_) (fun q18 => ?_)
      · replace h := ite_f h q18
        exact (fb_Mod_rule_290 o0  h).trans F
      · replace h := ite_t h q18
        obtain ⟨c19, h⟩ := chk_e h
        obtain ⟨v20, e21, h⟩ := bnd_e h
        replace F := (fr_Mod_work e21 (by first | omega | exact outA o0 (by decide))).trans F
        refine em_f (c := (v20.2 MO 82 : Int32) = 0) (fun q22 => ?_) (fun q22 => ?_)
        · replace h := ite_f h q22
          exact (fb_Mod_rule_227 o0 ih h).trans F
        · replace h := ite_t h q22
          refine em_f (c := (v20.2 A_statementKind x2.toNatClampNeg : Int32) = (50 : Int32)) (fun q23 => ?_) (fun q23 => ?_)
          · replace h := ite_f h q23
            exact (fb_Mod_rule_227 o0 ih h).trans F
          · replace h := ite_t h q23
            refine em_f (c := (v20.1 : Int32) = 0) (fun q24 => ?_) (fun q24 => ?_)
            · replace h := ite_f h q24
              exact (fb_Mod_rule_227 o0 ih h).trans F
            · replace h := ite_t h q24
              obtain ⟨I25, hI25, h⟩ := lt_x h
              replace F := (show I25 b = _ from by first | exact fr_up hI25 (by first | omega | (intro e; subst e; revert o0; decide)) | exact fr_fil hI25 (by omega) | exact fr_cpy hI25 (by omega)).trans F
              refine em_t (c := (300 : Int32) ≤ x2) (fun q26 => ?_) (fun q26 => ?_)
              · replace h := ite_t h q26
                exact (fb_Mod_rule_224 o0 ih h).trans F
              · replace h := ite_f h q26
                obtain ⟨c27, h⟩ := chk_e h
                exact (fb_Mod_rule_224 o0 ih h).trans F
set_option maxRecDepth 20000 in
set_option maxHeartbeats 4000000 in
theorem fb_Mod_rule_131 {n : Nat} {b : Nat} {r : IM} (o0 : b < 102 ∨ 102 + 39 ≤ b)  {x1 : Int32} {y1 : Int32} {I : IM} (h : b_Mod_rule_131 n  x1 y1 I = some r) : r b = I b := by
  unfold b_Mod_rule_131 at h
  have F : I b = I b := rfl
  obtain ⟨I14, hI14, h⟩ := lt_x h
  replace F := (show I14 b = _ from by first | exact fr_up hI14 (by first | omega | (intro e; subst e; revert o0; decide)) | exact fr_fil hI14 (by omega) | exact fr_cpy hI14 (by omega)).trans F
  obtain ⟨c15, h⟩ := chk_e h
  exact (fl_Mod_rule_141 o0  _ _ _ _ h).trans F
set_option maxRecDepth 20000 in
set_option maxHeartbeats 4000000 in
theorem fb_Mod_rule_98 {n : Nat} {b : Nat} {r : IM} (o0 : b < 102 ∨ 102 + 39 ≤ b)  {x1 : Int32} {I : IM} (h : b_Mod_rule_98 n  x1 I = some r) : r b = I b := by
  unfold b_Mod_rule_98 at h
  have F : I b = I b := rfl
  exact (fb_Mod_rule_131 o0  h).trans F
set_option maxRecDepth 20000 in
set_option maxHeartbeats 4000000 in
theorem fb_Mod_rule_130 {n : Nat} {b : Nat} {r : IM} (o0 : b < 102 ∨ 102 + 39 ≤ b)  {x1 : Int32} {I : IM} (h : b_Mod_rule_130 n  x1 I = some r) : r b = I b := by
  unfold b_Mod_rule_130 at h
  have F : I b = I b := rfl
  exact (fb_Mod_rule_131 o0  h).trans F
set_option maxRecDepth 20000 in
set_option maxHeartbeats 4000000 in
theorem fb_Mod_rule_59 {n : Nat} {b : Nat} {r : IM} (o0 : b < 102 ∨ 102 + 39 ≤ b)  {x1 : Int32} {y1 : Int32} {I : IM} (h : b_Mod_rule_59 n  x1 y1 I = some r) : r b = I b := by
  unfold b_Mod_rule_59 at h
  have F : I b = I b := rfl
  obtain ⟨I7, hI7, h⟩ := lt_x h
  replace F := (show I7 b = _ from by first | exact fr_up hI7 (by first | omega | (intro e; subst e; revert o0; decide)) | exact fr_fil hI7 (by omega) | exact fr_cpy hI7 (by omega)).trans F
  refine em_t (c := (I7 MO 69 : Int32) = 0) (fun q8 => ?_) (fun q8 => ?_)
  · replace h := ite_t h q8
    refine em_t (c := (I7 MO 75 : Int32) = (19 : Int32)) (fun q9 => ?_) (fun q9 => ?_)
    · replace h := ite_t h q9
      exact (fb_Mod_rule_98 o0  h).trans F
    · replace h := ite_f h q9
      refine em_f (c := (I7 MO 75 : Int32) = (20 : Int32)) (fun q10 => ?_) (fun q10 => ?_)
      · replace h := ite_f h q10
        refine em_t (c := (I7 MO 81 : Int32) = 0) (fun q11 => ?_) (fun q11 => ?_)
        · replace h := ite_t h q11
          exact (fb_Mod_rule_130 o0  h).trans F
        · replace h := ite_f h q11
          refine em_f (c := (I7 MO 75 : Int32) = (12 : Int32)) (fun q12 => ?_) (fun q12 => ?_)
          · replace h := ite_f h q12
            exact (fb_Mod_rule_130 o0  h).trans F
          · replace h := ite_t h q12
            obtain ⟨c13, h⟩ := chk_e h
            exact (fb_Mod_rule_131 o0  h).trans F
      · replace h := ite_t h q10
        exact (fb_Mod_rule_98 o0  h).trans F
  · replace h := ite_f h q8
    exact (fb_Mod_rule_131 o0  h).trans F
set_option maxRecDepth 20000 in
set_option maxHeartbeats 4000000 in
theorem fb_Mod_rule_35 {n : Nat} {b : Nat} {r : IM} (o0 : b < 102 ∨ 102 + 39 ≤ b)  {x1 : Int32} {y1 : Int32} {I : IM} (h : b_Mod_rule_35 n  x1 y1 I = some r) : r b = I b := by
  unfold b_Mod_rule_35 at h
  have F : I b = I b := rfl
  obtain ⟨I5, hI5, h⟩ := lt_x h
  replace F := (show I5 b = _ from by first | exact fr_up hI5 (by first | omega | (intro e; subst e; revert o0; decide)) | exact fr_fil hI5 (by omega) | exact fr_cpy hI5 (by omega)).trans F
  refine em_t (c := (I5 MO 69 : Int32) = 0) (fun q6 => ?_) (fun q6 => ?_)
  · replace h := ite_t h q6
    exact (fb_Mod_rule_59 o0  h).trans F
  · replace h := ite_f h q6
    exact (fb_Mod_rule_59 o0  h).trans F
set_option maxRecDepth 20000 in
set_option maxHeartbeats 4000000 in
theorem fb_Mod_rule_34 {n : Nat} {b : Nat} {r : IM} (o0 : b < 102 ∨ 102 + 39 ≤ b)  {x1 : Int32} {I : IM} (h : b_Mod_rule_34 n  x1 I = some r) : r b = I b := by
  unfold b_Mod_rule_34 at h
  have F : I b = I b := rfl
  exact (fb_Mod_rule_35 o0  h).trans F
set_option maxRecDepth 20000 in
set_option maxHeartbeats 4000000 in
theorem fr_Mod_rule {n : Nat} {x1 : Int32} {I : IM} {b : Nat} {r : IM}  (h : f_Mod_rule n x1 I = some r) (o0 : b < 102 ∨ 102 + 39 ≤ b) : r b = I b := by
  unfold f_Mod_rule at h
  have F : I b = I b := rfl
  obtain ⟨I1, hI1, h⟩ := lt_x h
  replace F := (show I1 b = _ from by first | exact fr_up hI1 (by first | omega | (intro e; subst e; revert o0; decide)) | exact fr_fil hI1 (by omega) | exact fr_cpy hI1 (by omega)).trans F
  refine em_f (c := (I1 MO 69 : Int32) = 0) (fun q2 => ?_) (fun q2 => ?_)
  · replace h := ite_f h q2
    exact (fb_Mod_rule_34 o0  h).trans F
  · replace h := ite_t h q2
    refine em_f (c := (I1 MO 75 : Int32) = (21 : Int32)) (fun q3 => ?_) (fun q3 => ?_)
    · replace h := ite_f h q3
      exact (fb_Mod_rule_34 o0  h).trans F
    · replace h := ite_t h q3
      obtain ⟨c4, h⟩ := chk_e h
      exact (fb_Mod_rule_35 o0  h).trans F
set_option maxRecDepth 20000 in
set_option maxHeartbeats 4000000 in
theorem fb_Mod_ask_81 {n : Nat} {b : Nat} {r : IM} (o0 : b < 102 ∨ 102 + 39 ≤ b) {H45 : Int32 → Int32 → IM → Option (IM)} (hH45 : ∀ (x1 : Int32) (x2 : Int32) (I : IM), H45 x1 x2 I = some r → r b = I b) {x1 : Int32} {x2 : Int32} {y2 : Int32} {y1 : Int32} {I : IM} (h : b_Mod_ask_81 n H45 x1 x2 y2 y1 I = some r) : r b = I b := by
  unfold b_Mod_ask_81 at h
  have F : I b = I b := rfl
  obtain ⟨c17, h⟩ := chk_e h
  obtain ⟨I18, hI18, h⟩ := lt_x h
  replace F := (show I18 b = _ from by first | exact fr_up hI18 (by first | omega | (intro e; subst e; revert o0; decide)) | exact fr_fil hI18 (by omega) | exact fr_cpy hI18 (by omega)).trans F
  exact (hH45 _ _ _ h).trans F
set_option maxRecDepth 20000 in
set_option maxHeartbeats 4000000 in
theorem fb_Mod_ask_177 {n : Nat} {b : Nat} {r : IM} (o0 : b < 102 ∨ 102 + 39 ≤ b) {H124 : Int32 → Int32 → Int32 → IM → Option (IM)} (hH124 : ∀ (x1 : Int32) (x2 : Int32) (x3 : Int32) (I : IM), H124 x1 x2 x3 I = some r → r b = I b) {H138 : Int32 → Int32 → Int32 → Int32 → Int32 → IM → Option (IM)} (hH138 : ∀ (x1 : Int32) (x2 : Int32) (x3 : Int32) (x4 : Int32) (x5 : Int32) (I : IM), H138 x1 x2 x3 x4 x5 I = some r → r b = I b) {x1 : Int32} {x2 : Int32} {x3 : Int32} {x5 : Int32} {y0 : Int32} {I : IM} (h : b_Mod_ask_177 n H124 H138 x1 x2 x3 x5 y0 I = some r) : r b = I b := by
  unfold b_Mod_ask_177 at h
  have F : I b = I b := rfl
  exact (hH138 _ _ _ _ _ _ h).trans F
set_option maxRecDepth 20000 in
set_option maxHeartbeats 4000000 in
theorem fb_Mod_ask_176 {n : Nat} {b : Nat} {r : IM} (o0 : b < 102 ∨ 102 + 39 ≤ b) {H124 : Int32 → Int32 → Int32 → IM → Option (IM)} (hH124 : ∀ (x1 : Int32) (x2 : Int32) (x3 : Int32) (I : IM), H124 x1 x2 x3 I = some r → r b = I b) {H138 : Int32 → Int32 → Int32 → Int32 → Int32 → IM → Option (IM)} (hH138 : ∀ (x1 : Int32) (x2 : Int32) (x3 : Int32) (x4 : Int32) (x5 : Int32) (I : IM), H138 x1 x2 x3 x4 x5 I = some r → r b = I b) {x1 : Int32} {x2 : Int32} {x3 : Int32} {x5 : Int32} {I : IM} (h : b_Mod_ask_176 n H124 H138 x1 x2 x3 x5 I = some r) : r b = I b := by
  unfold b_Mod_ask_176 at h
  have F : I b = I b := rfl
  exact (fb_Mod_ask_177 o0 hH124 hH138 h).trans F
set_option maxRecDepth 20000 in
set_option maxHeartbeats 4000000 in
theorem fl_Mod_ask_138 {n : Nat} {b : Nat} {r : IM} (o0 : b < 102 ∨ 102 + 39 ≤ b) {H124 : Int32 → Int32 → Int32 → IM → Option (IM)} (hH124 : ∀ (x1 : Int32) (x2 : Int32) (x3 : Int32) (I : IM), H124 x1 x2 x3 I = some r → r b = I b) : ∀ (f : Nat) (x1 : Int32) (x2 : Int32) (x3 : Int32) (x4 : Int32) (x5 : Int32) (I : IM), l_Mod_ask_138 n H124 f x1 x2 x3 x4 x5 I = some r → r b = I b
  | 0, _, _, _, _, _, _, h => by cases h
  | f + 1, x1, x2, x3, x4, x5, I, h => by
    have ih := fl_Mod_ask_138 (b := b) (r := r) (n := n)   o0 hH124 f
    rw [l_Mod_ask_138] at h
    have F : I b = I b := rfl
    refine em_t (c := (16 : Int32) ≤ x5) (fun q33 => ?_) (fun q33 => ?_)
    · replace h := ite_t h q33
      exact (hH124 _ _ _ _ h).trans F
    · replace h := ite_f h q33
      refine em_t (c := x4 = 0) (fun q35 => ?_) (fun q35 => ?_)
      · replace h := ite_t h q35
        exact (fb_Mod_ask_176 o0 hH124 ih h).trans F
      · replace h := ite_f h q35
        obtain ⟨c36, h⟩ := chk_e h
        obtain ⟨c37, h⟩ := chk_e h
        exact (ih _ _ _ _ _ _ h).trans F
set_option maxRecDepth 20000 in
set_option maxHeartbeats 4000000 in
theorem fb_Mod_ask_345 {n : Nat} {b : Nat} {r : IM} (o0 : b < 102 ∨ 102 + 39 ≤ b)  {x2 : Int32} {y1 : Int32} {I : IM} (h : b_Mod_ask_345 n  x2 y1 I = some r) : r b = I b := by
  unfold b_Mod_ask_345 at h
  have F : I b = I b := rfl
  obtain ⟨I49, hI49, h⟩ := lt_x h
  replace F := (show I49 b = _ from by first | exact fr_up hI49 (by first | omega | (intro e; subst e; revert o0; decide)) | exact fr_fil hI49 (by omega) | exact fr_cpy hI49 (by omega)).trans F
  obtain ⟨c50, h⟩ := chk_e h
  obtain ⟨I51, hI51, h⟩ := lt_x h
  replace F := (show I51 b = _ from by first | exact fr_up hI51 (by first | omega | (intro e; subst e; revert o0; decide)) | exact fr_fil hI51 (by omega) | exact fr_cpy hI51 (by omega)).trans F
  cases h
  exact F
set_option maxRecDepth 20000 in
set_option maxHeartbeats 4000000 in
theorem fb_Mod_ask_314 {n : Nat} {b : Nat} {r : IM} (o0 : b < 102 ∨ 102 + 39 ≤ b)  {x1 : Int32} {x2 : Int32} {y1 : Int32} {I : IM} (h : b_Mod_ask_314 n  x1 x2 y1 I = some r) : r b = I b := by
  unfold b_Mod_ask_314 at h
  have F : I b = I b := rfl
  obtain ⟨I44, hI44, h⟩ := lt_x h
  replace F := (show I44 b = _ from by first | exact fr_up hI44 (by first | omega | (intro e; subst e; revert o0; decide)) | exact fr_fil hI44 (by omega) | exact fr_cpy hI44 (by omega)).trans F
  obtain ⟨v45, e46, h⟩ := bnd_e h
  refine em_t (c := v45 = 0) (fun q47 => ?_) (fun q47 => ?_)
  · replace h := ite_t h q47
    exact (fb_Mod_ask_345 o0  h).trans F
  · replace h := ite_f h q47
    obtain ⟨c48, h⟩ := chk_e h
    exact (fb_Mod_ask_345 o0  h).trans F
set_option maxRecDepth 20000 in
set_option maxHeartbeats 4000000 in
theorem fb_Mod_ask_283 {n : Nat} {b : Nat} {r : IM} (o0 : b < 102 ∨ 102 + 39 ≤ b)  {x1 : Int32} {x2 : Int32} {y1 : Int32} {I : IM} (h : b_Mod_ask_283 n  x1 x2 y1 I = some r) : r b = I b := by
  unfold b_Mod_ask_283 at h
  have F : I b = I b := rfl
  obtain ⟨I39, hI39, h⟩ := lt_x h
  replace F := (show I39 b = _ from by first | exact fr_up hI39 (by first | omega | (intro e; subst e; revert o0; decide)) | exact fr_fil hI39 (by omega) | exact fr_cpy hI39 (by omega)).trans F
  obtain ⟨v40, e41, h⟩ := bnd_e h
  refine em_t (c := v40 = 0) (fun q42 => ?_) (fun q42 => ?_)
  · replace h := ite_t h q42
    exact (fb_Mod_ask_314 o0  h).trans F
  · replace h := ite_f h q42
    obtain ⟨c43, h⟩ := chk_e h
    exact (fb_Mod_ask_314 o0  h).trans F
set_option maxRecDepth 20000 in
set_option maxHeartbeats 4000000 in
theorem fl_Mod_ask_365 {n : Nat} {b : Nat} {r : IM} (o0 : b < 102 ∨ 102 + 39 ≤ b)  : ∀ (f : Nat) (x3 : Int32) (I : IM), l_Mod_ask_365 n  f x3 I = some r → r b = I b
  | 0, _, _, h => by cases h
  | f + 1, x3, I, h => by
    have ih := fl_Mod_ask_365 (b := b) (r := r) (n := n)   o0 f
    rw [l_Mod_ask_365] at h
    have F : I b = I b := rfl
    refine em_t (c := (16 : Int32) ≤ x3) (fun q52 => ?_) (fun q52 => ?_)
    · replace h := ite_t h q52
      obtain ⟨c53, h⟩ := chk_e h
      obtain ⟨I54, hI54, h⟩ := lt_x h
      replace F := (show I54 b = _ from by first | exact fr_up hI54 (by first | omega | (intro e; subst e; revert o0; decide)) | exact fr_fil hI54 (by omega) | exact fr_cpy hI54 (by omega)).trans F
      obtain ⟨c55, h⟩ := chk_e h
      obtain ⟨I56, hI56, h⟩ := lt_x h
      replace F := (show I56 b = _ from by first | exact fr_up hI56 (by first | omega | (intro e; subst e; revert o0; decide)) | exact fr_fil hI56 (by omega) | exact fr_cpy hI56 (by omega)).trans F
      obtain ⟨c57, h⟩ := chk_e h
      obtain ⟨I58, hI58, h⟩ := lt_x h
      replace F := (show I58 b = _ from by first | exact fr_up hI58 (by first | omega | (intro e; subst e; revert o0; decide)) | exact fr_fil hI58 (by omega) | exact fr_cpy hI58 (by omega)).trans F
      obtain ⟨c59, h⟩ := chk_e h
      obtain ⟨I60, hI60, h⟩ := lt_x h
      replace F := (show I60 b = _ from by first | exact fr_up hI60 (by first | omega | (intro e; subst e; revert o0; decide)) | exact fr_fil hI60 (by omega) | exact fr_cpy hI60 (by omega)).trans F
      obtain ⟨c61, h⟩ := chk_e h
      obtain ⟨I62, hI62, h⟩ := lt_x h
      replace F := (show I62 b = _ from by first | exact fr_up hI62 (by first | omega | (intro e; subst e; revert o0; decide)) | exact fr_fil hI62 (by omega) | exact fr_cpy hI62 (by omega)).trans F
      obtain ⟨I63, hI63, h⟩ := lt_x h
      replace F := (show I63 b = _ from by first | exact fr_up hI63 (by first | omega | (intro e; subst e; revert o0; decide)) | exact fr_fil hI63 (by omega) | exact fr_cpy hI63 (by omega)).trans F
      obtain ⟨I65, hI65, h⟩ := lt_x h
      replace F := (show I65 b = _ from by first | exact fr_up hI65 (by first | omega | (intro e; subst e; revert o0; decide)) | exact fr_fil hI65 (by omega) | exact fr_cpy hI65 (by omega)).trans F
      cases h
      exact F
    · replace h := ite_f h q52
      obtain ⟨c66, h⟩ := chk_e h
      obtain ⟨c67, h⟩ := chk_e h
      obtain ⟨I68, hI68, h⟩ := lt_x h
      replace F := (show I68 b = _ from by first | exact fr_up hI68 (by first | omega | (intro e; subst e; revert o0; decide)) | exact fr_fil hI68 (by omega) | exact fr_cpy hI68 (by omega)).trans F
      exact (ih _ _ h).trans F
set_option maxRecDepth 20000 in
set_option maxHeartbeats 4000000 in
theorem fl_Mod_ask_124 {n : Nat} {b : Nat} {r : IM} (o0 : b < 102 ∨ 102 + 39 ≤ b)  : ∀ (f : Nat) (x1 : Int32) (x2 : Int32) (x3 : Int32) (I : IM), l_Mod_ask_124 n  f x1 x2 x3 I = some r → r b = I b
  | 0, _, _, _, _, h => by cases h
  | f + 1, x1, x2, x3, I, h => by
    have ih := fl_Mod_ask_124 (b := b) (r := r) (n := n)   o0 f
    rw [l_Mod_ask_124] at h
    have F : I b = I b := rfl
    refine em_t (c := (I MO 58 : Int32) ≤ x3) (fun q19 => ?_) (fun q19 => ?_)
    · replace h := ite_t h q19
      obtain ⟨v20, e21, h⟩ := bnd_e h
      replace F := (fr_Mod_rule e21 (by first | omega | exact outA o0 (by decide))).trans F
      refine em_t (c := x2 < 0) (fun q22 => ?_) (fun q22 => ?_)
      · replace h := ite_t h q22
        exact (fl_Mod_ask_365 o0  _ _ _ h).trans F
      · replace h := ite_f h q22
        obtain ⟨I23, hI23, h⟩ := lt_x h
        replace F := (show I23 b = _ from by first | exact fr_up hI23 (by first | omega | (intro e; subst e; revert o0; decide)) | exact fr_fil hI23 (by omega) | exact fr_cpy hI23 (by omega)).trans F
        obtain ⟨c24, h⟩ := chk_e h
        obtain ⟨I25, hI25, h⟩ := lt_x h
        replace F := (show I25 b = _ from by first | exact fr_up hI25 (by first | omega | (intro e; subst e; revert o0; decide)) | exact fr_fil hI25 (by omega) | exact fr_cpy hI25 (by omega)).trans F
        obtain ⟨I26, hI26, h⟩ := lt_x h
        replace F := (show I26 b = _ from by first | exact fr_up hI26 (by first | omega | (intro e; subst e; revert o0; decide)) | exact fr_fil hI26 (by omega) | exact fr_cpy hI26 (by omega)).trans F
        obtain ⟨c27, h⟩ := chk_e h
        obtain ⟨I28, hI28, h⟩ := lt_x h
        replace F := (show I28 b = _ from by first | exact fr_up hI28 (by first | omega | (intro e; subst e; revert o0; decide)) | exact fr_fil hI28 (by omega) | exact fr_cpy hI28 (by omega)).trans F
        obtain ⟨v29, e30, h⟩ := bnd_e h
        refine em_t (c := v29 = 0) (fun q31 => ?_) (fun q31 => ?_)
        · replace h := ite_t h q31
          exact (fb_Mod_ask_283 o0  h).trans F
        · replace h := ite_f h q31
          obtain ⟨c32, h⟩ := chk_e h
          exact (fb_Mod_ask_283 o0  h).trans F
    · replace h := ite_f h q19
      exact (fl_Mod_ask_138 o0 ih _ _ _ _ _ _ _ h).trans F
set_option maxRecDepth 20000 in
set_option maxHeartbeats 4000000 in
theorem fl_Mod_ask_45 {n : Nat} {b : Nat} {r : IM} (o0 : b < 102 ∨ 102 + 39 ≤ b)  : ∀ (f : Nat) (x1 : Int32) (x2 : Int32) (I : IM), l_Mod_ask_45 n  f x1 x2 I = some r → r b = I b
  | 0, _, _, _, h => by cases h
  | f + 1, x1, x2, I, h => by
    have ih := fl_Mod_ask_45 (b := b) (r := r) (n := n)   o0 f
    rw [l_Mod_ask_45] at h
    have F : I b = I b := rfl
    refine em_t (c := (15 : Int32) ≤ x2) (fun q8 => ?_) (fun q8 => ?_)
    · replace h := ite_t h q8
      obtain ⟨I9, hI9, h⟩ := lt_x h
      replace F := (show I9 b = _ from by first | exact fr_up hI9 (by first | omega | (intro e; subst e; revert o0; decide)) | exact fr_fil hI9 (by omega) | exact fr_cpy hI9 (by omega)).trans F
      obtain ⟨c10, h⟩ := chk_e h
      obtain ⟨I11, hI11, h⟩ := lt_x h
      replace F := (show I11 b = _ from by first | exact fr_up hI11 (by first | omega | (intro e; subst e; revert o0; decide)) | exact fr_fil hI11 (by omega) | exact fr_cpy hI11 (by omega)).trans F
      obtain ⟨I12, hI12, h⟩ := lt_x h
      replace F := (show I12 b = _ from by first | exact fr_up hI12 (by first | omega | (intro e; subst e; revert o0; decide)) | exact fr_fil hI12 (by omega) | exact fr_cpy hI12 (by omega)).trans F
      exact (fl_Mod_ask_124 o0  _ _ _ _ _ h).trans F
    · replace h := ite_f h q8
      obtain ⟨c13, h⟩ := chk_e h
      refine em_f (c := (((I A_named x1.toNatClampNeg : Int32) >>> ((x2 : Int32) &&& 31)) &&& 1 : Int32) = (1 : Int32)) (fun q14 => ?_) (fun q14 => ?_)
      · replace h := ite_f h q14
        exact (fb_Mod_ask_81 o0 ih h).trans F
      · replace h := ite_t h q14
        obtain ⟨v15, e16, h⟩ := bnd_e h
        exact (fb_Mod_ask_81 o0 ih h).trans F
set_option maxRecDepth 20000 in
set_option maxHeartbeats 4000000 in
theorem fr_Mod_ask {n : Nat} {I : IM} {b : Nat} {r : IM}  (h : f_Mod_ask n I = some r) (o0 : b < 102 ∨ 102 + 39 ≤ b) : r b = I b := by
  unfold f_Mod_ask at h
  have F : I b = I b := rfl
  obtain ⟨c1, h⟩ := chk_e h
  obtain ⟨I2, hI2, h⟩ := lt_x h
  replace F := (show I2 b = _ from by first | exact fr_up hI2 (by first | omega | (intro e; subst e; revert o0; decide)) | exact fr_fil hI2 (by omega) | exact fr_cpy hI2 (by omega)).trans F
  obtain ⟨c3, h⟩ := chk_e h
  refine em_t (c := ((I2 A_named (I A_ruleOf (I MO 75 : Int32).toNatClampNeg : Int32).toNatClampNeg : Int32) >>> ((15 : Int32) &&& 31) : Int32) = 0) (fun q4 => ?_) (fun q4 => ?_)
  · replace h := ite_t h q4
    obtain ⟨I5, hI5, h⟩ := lt_x h
    replace F := (show I5 b = _ from by first | exact fr_up hI5 (by first | omega | (intro e; subst e; revert o0; decide)) | exact fr_fil hI5 (by omega) | exact fr_cpy hI5 (by omega)).trans F
    exact (fl_Mod_ask_45 o0  _ _ _ _ h).trans F
  · replace h := ite_f h q4
    obtain ⟨v6, e7, h⟩ := bnd_e h
    replace F := (fr_Mod_rule e7 (by first | omega | exact outA o0 (by decide))).trans F
    cases h
    exact F
set_option maxRecDepth 20000 in
set_option maxHeartbeats 4000000 in
theorem fl_Mod_make_38 {n : Nat} {b : Nat} {r : Int32 × IM} (o0 : b < 102 ∨ 102 + 39 ≤ b)  : ∀ (f : Nat) (x1 : Int32) (x2 : Int32) (x3 : Int32) (I : IM), l_Mod_make_38 n  f x1 x2 x3 I = some r → r.2 b = I b
  | 0, _, _, _, _, h => by cases h
  | f + 1, x1, x2, x3, I, h => by
    have ih := fl_Mod_make_38 (b := b) (r := r) (n := n)   o0 f
    rw [l_Mod_make_38] at h
    have F : I b = I b := rfl
    refine em_t (c := (x2 + x1 : Int32) ≤ x3) (fun q8 => ?_) (fun q8 => ?_)
    · replace h := ite_t h q8
      obtain ⟨c9, h⟩ := chk_e h
      obtain ⟨I10, hI10, h⟩ := lt_x h
      replace F := (show I10 b = _ from by first | exact fr_up hI10 (by first | omega | (intro e; subst e; revert o0; decide)) | exact fr_fil hI10 (by omega) | exact fr_cpy hI10 (by omega)).trans F
      obtain ⟨c11, h⟩ := chk_e h
      obtain ⟨I12, hI12, h⟩ := lt_x h
      replace F := (show I12 b = _ from by first | exact fr_up hI12 (by first | omega | (intro e; subst e; revert o0; decide)) | exact fr_fil hI12 (by omega) | exact fr_cpy hI12 (by omega)).trans F
      obtain ⟨I13, hI13, h⟩ := lt_x h
      replace F := (show I13 b = _ from by first | exact fr_up hI13 (by first | omega | (intro e; subst e; revert o0; decide)) | exact fr_fil hI13 (by omega) | exact fr_cpy hI13 (by omega)).trans F
      cases h
      exact F
    · replace h := ite_f h q8
      obtain ⟨c14, h⟩ := chk_e h
      obtain ⟨I15, hI15, h⟩ := lt_x h
      replace F := (show I15 b = _ from by first | exact fr_up hI15 (by first | omega | (intro e; subst e; revert o0; decide)) | exact fr_fil hI15 (by omega) | exact fr_cpy hI15 (by omega)).trans F
      obtain ⟨I16, hI16, h⟩ := lt_x h
      replace F := (show I16 b = _ from by first | exact fr_up hI16 (by first | omega | (intro e; subst e; revert o0; decide)) | exact fr_fil hI16 (by omega) | exact fr_cpy hI16 (by omega)).trans F
      obtain ⟨I17, hI17, h⟩ := lt_x h
      replace F := (show I17 b = _ from by first | exact fr_up hI17 (by first | omega | (intro e; subst e; revert o0; decide)) | exact fr_fil hI17 (by omega) | exact fr_cpy hI17 (by omega)).trans F
      exact (ih _ _ _ _ h).trans F
set_option maxRecDepth 20000 in
set_option maxHeartbeats 4000000 in
theorem fb_Mod_make_29 {n : Nat} {b : Nat} {r : Int32 × IM} (o0 : b < 102 ∨ 102 + 39 ≤ b)  {x1 : Int32} {y0 : Int32} {I : IM} (h : b_Mod_make_29 n  x1 y0 I = some r) : r.2 b = I b := by
  unfold b_Mod_make_29 at h
  have F : I b = I b := rfl
  refine em_t (c := 0 ≤ y0) (fun q7 => ?_) (fun q7 => ?_)
  · replace h := ite_t h q7
    exact (fl_Mod_make_38 o0  _ _ _ _ _ h).trans F
  · replace h := ite_f h q7
    cases h
    exact F
set_option maxRecDepth 20000 in
set_option maxHeartbeats 4000000 in
theorem fr_Mod_make {n : Nat} {I : IM} {b : Nat} {r : Int32 × IM}  (h : f_Mod_make n I = some r) (o0 : b < 102 ∨ 102 + 39 ≤ b) : r.2 b = I b := by
  unfold f_Mod_make at h
  have F : I b = I b := rfl
  obtain ⟨c1, h⟩ := chk_e h
  obtain ⟨v2, e3, h⟩ := bnd_e h
  refine em_t (c := v2 = 0) (fun q4 => ?_) (fun q4 => ?_)
  · replace h := ite_t h q4
    exact (fb_Mod_make_29 o0  h).trans F
  · replace h := ite_f h q4
    obtain ⟨v5, e6, h⟩ := bnd_e h
    exact (fb_Mod_make_29 o0  h).trans F
set_option maxRecDepth 20000 in
set_option maxHeartbeats 4000000 in
theorem fl_Mod_takeInput_12 {n : Nat} {b : Nat} {r : IM} (o0 : b < 102 ∨ 102 + 39 ≤ b)  : ∀ (f : Nat) (x1 : Int32) (I : IM), l_Mod_takeInput_12 n  f x1 I = some r → r b = I b
  | 0, _, _, h => by cases h
  | f + 1, x1, I, h => by
    have ih := fl_Mod_takeInput_12 (b := b) (r := r) (n := n)   o0 f
    rw [l_Mod_takeInput_12] at h
    have F : I b = I b := rfl
    refine em_t (c := (I MO 45 : Int32) ≤ x1) (fun q2 => ?_) (fun q2 => ?_)
    · replace h := ite_t h q2
      cases h
      exact F
    · replace h := ite_f h q2
      obtain ⟨c3, h⟩ := chk_e h
      obtain ⟨c4, h⟩ := chk_e h
      obtain ⟨I5, hI5, h⟩ := lt_x h
      replace F := (show I5 b = _ from by first | exact fr_up hI5 (by first | omega | (intro e; subst e; revert o0; decide)) | exact fr_fil hI5 (by omega) | exact fr_cpy hI5 (by omega)).trans F
      obtain ⟨I6, hI6, h⟩ := lt_x h
      replace F := (show I6 b = _ from by first | exact fr_up hI6 (by first | omega | (intro e; subst e; revert o0; decide)) | exact fr_fil hI6 (by omega) | exact fr_cpy hI6 (by omega)).trans F
      exact (ih _ _ h).trans F
set_option maxRecDepth 20000 in
set_option maxHeartbeats 4000000 in
theorem fr_Mod_takeInput {n : Nat} {I : IM} {b : Nat} {r : IM}  (h : f_Mod_takeInput n I = some r) (o0 : b < 102 ∨ 102 + 39 ≤ b) : r b = I b := by
  unfold f_Mod_takeInput at h
  have F : I b = I b := rfl
  obtain ⟨I1, hI1, h⟩ := lt_x h
  replace F := (show I1 b = _ from by first | exact fr_up hI1 (by first | omega | (intro e; subst e; revert o0; decide)) | exact fr_fil hI1 (by omega) | exact fr_cpy hI1 (by omega)).trans F
  exact (fl_Mod_takeInput_12 o0  _ _ _ h).trans F
set_option maxRecDepth 20000 in
set_option maxHeartbeats 4000000 in
theorem fb_Mod_perform_334 {n : Nat} {b : Nat} {r : Int32 × IM} (o0 : b < 102 ∨ 102 + 39 ≤ b)  {x1 : Int32} {I : IM} (h : b_Mod_perform_334 n  x1 I = some r) : r.2 b = I b := by
  unfold b_Mod_perform_334 at h
  have F : I b = I b := rfl
  cases h
  exact F
set_option maxRecDepth 20000 in
set_option maxHeartbeats 4000000 in
theorem fb_Mod_perform_183 {n : Nat} {b : Nat} {r : Int32 × IM} (o0 : b < 102 ∨ 102 + 39 ≤ b)   {I : IM} (h : b_Mod_perform_183 n   I = some r) : r.2 b = I b := by
  unfold b_Mod_perform_183 at h
  have F : I b = I b := rfl
  exact (fb_Mod_perform_334 o0  h).trans F
set_option maxRecDepth 20000 in
set_option maxHeartbeats 4000000 in
theorem fb_Mod_perform_249 {n : Nat} {b : Nat} {r : Int32 × IM} (o0 : b < 102 ∨ 102 + 39 ≤ b)  {x1 : Int32} {I : IM} (h : b_Mod_perform_249 n  x1 I = some r) : r.2 b = I b := by
  unfold b_Mod_perform_249 at h
  have F : I b = I b := rfl
  obtain ⟨I33, hI33, h⟩ := lt_x h
  replace F := (show I33 b = _ from by first | exact fr_up hI33 (by first | omega | (intro e; subst e; revert o0; decide)) | exact fr_fil hI33 (by omega) | exact fr_cpy hI33 (by omega)).trans F
  exact (fb_Mod_perform_334 o0  h).trans F
set_option maxRecDepth 20000 in
set_option maxHeartbeats 4000000 in
theorem fb_Mod_perform_307 {n : Nat} {b : Nat} {r : Int32 × IM} (o0 : b < 102 ∨ 102 + 39 ≤ b) {H273 : Int32 → Int32 → IM → Option (Int32 × IM)} (hH273 : ∀ (x1 : Int32) (x2 : Int32) (I : IM), H273 x1 x2 I = some r → r.2 b = I b) {x1 : Int32} {x2 : Int32} {y2 : Int32} {y1 : Int32} {I : IM} (h : b_Mod_perform_307 n H273 x1 x2 y2 y1 I = some r) : r.2 b = I b := by
  unfold b_Mod_perform_307 at h
  have F : I b = I b := rfl
  obtain ⟨c37, h⟩ := chk_e h
  obtain ⟨I38, hI38, h⟩ := lt_x h
  replace F := (show I38 b = _ from by first | exact fr_up hI38 (by first | omega | (intro e; subst e; revert o0; decide)) | exact fr_fil hI38 (by omega) | exact fr_cpy hI38 (by omega)).trans F
  exact (hH273 _ _ _ h).trans F
set_option maxRecDepth 20000 in
set_option maxHeartbeats 4000000 in
theorem fl_Mod_perform_273 {n : Nat} {b : Nat} {r : Int32 × IM} (o0 : b < 102 ∨ 102 + 39 ≤ b)  : ∀ (f : Nat) (x1 : Int32) (x2 : Int32) (I : IM), l_Mod_perform_273 n  f x1 x2 I = some r → r.2 b = I b
  | 0, _, _, _, h => by cases h
  | f + 1, x1, x2, I, h => by
    have ih := fl_Mod_perform_273 (b := b) (r := r) (n := n)   o0 f
    rw [l_Mod_perform_273] at h
    have F : I b = I b := rfl
    refine em_t (c := (96 : Int32) ≤ x2) (fun q34 => ?_) (fun q34 => ?_)
    · replace h := ite_t h q34
      exact (fb_Mod_perform_334 o0  h).trans F
    · replace h := ite_f h q34
      obtain ⟨c35, h⟩ := chk_e h
      refine em_f (c := (I A_owners x2.toNatClampNeg : Int32) = (I MO 85 : Int32)) (fun q36 => ?_) (fun q36 => ?_)
      · replace h := ite_f h q36
        exact (fb_Mod_perform_307 o0 ih h).trans F
      · replace h := ite_t h q36
        exact (fb_Mod_perform_307 o0 ih h).trans F
set_option maxRecDepth 20000 in
set_option maxHeartbeats 4000000 in
theorem fb_Mod_perform_191 {n : Nat} {b : Nat} {r : Int32 × IM} (o0 : b < 102 ∨ 102 + 39 ≤ b)  {x1 : Int32} {I : IM} (h : b_Mod_perform_191 n  x1 I = some r) : r.2 b = I b := by
  unfold b_Mod_perform_191 at h
  have F : I b = I b := rfl
  refine em_f (c := (I MO 75 : Int32) = (15 : Int32)) (fun q23 => ?_) (fun q23 => ?_)
  · replace h := ite_f h q23
    refine em_f (c := (I MO 75 : Int32) = (17 : Int32)) (fun q24 => ?_) (fun q24 => ?_)
    · replace h := ite_f h q24
      refine em_f (c := (I MO 75 : Int32) = (20 : Int32)) (fun q25 => ?_) (fun q25 => ?_)
      · replace h := ite_f h q25
        refine em_f (c := (I MO 75 : Int32) = 0) (fun q26 => ?_) (fun q26 => ?_)
        · replace h := ite_f h q26
          exact (fb_Mod_perform_334 o0  h).trans F
        · replace h := ite_t h q26
          obtain ⟨I27, hI27, h⟩ := lt_x h
          replace F := (show I27 b = _ from by first | exact fr_up hI27 (by first | omega | (intro e; subst e; revert o0; decide)) | exact fr_fil hI27 (by omega) | exact fr_cpy hI27 (by omega)).trans F
          exact (fb_Mod_perform_334 o0  h).trans F
      · replace h := ite_t h q25
        exact (fl_Mod_perform_273 o0  _ _ _ _ h).trans F
    · replace h := ite_t h q24
      refine em_t (c := (40 : Int32) ≤ (I MO 48 : Int32)) (fun q28 => ?_) (fun q28 => ?_)
      · replace h := ite_t h q28
        exact (fb_Mod_perform_249 o0  h).trans F
      · replace h := ite_f h q28
        obtain ⟨c29, h⟩ := chk_e h
        obtain ⟨c30, h⟩ := chk_e h
        obtain ⟨I31, hI31, h⟩ := lt_x h
        replace F := (show I31 b = _ from by first | exact fr_up hI31 (by first | omega | (intro e; subst e; revert o0; decide)) | exact fr_fil hI31 (by omega) | exact fr_cpy hI31 (by omega)).trans F
        exact (fb_Mod_perform_249 o0  h).trans F
  · replace h := ite_t h q23
    obtain ⟨c32, h⟩ := chk_e h
    exact (fb_Mod_perform_334 o0  h).trans F
set_option maxRecDepth 20000 in
set_option maxHeartbeats 4000000 in
theorem fb_Mod_perform_72 {n : Nat} {b : Nat} {r : Int32 × IM} (o0 : b < 102 ∨ 102 + 39 ≤ b)  {x1 : Int32} {I : IM} (h : b_Mod_perform_72 n  x1 I = some r) : r.2 b = I b := by
  unfold b_Mod_perform_72 at h
  have F : I b = I b := rfl
  refine em_f (c := (I MO 75 : Int32) = (18 : Int32)) (fun q7 => ?_) (fun q7 => ?_)
  · replace h := ite_f h q7
    refine em_f (c := (I MO 75 : Int32) = (12 : Int32)) (fun q8 => ?_) (fun q8 => ?_)
    · replace h := ite_f h q8
      refine em_t (c := (I MO 75 : Int32) = (13 : Int32)) (fun q9 => ?_) (fun q9 => ?_)
      · replace h := ite_t h q9
        exact (fb_Mod_perform_183 o0  h).trans F
      · replace h := ite_f h q9
        refine em_t (c := (I MO 75 : Int32) = (16 : Int32)) (fun q10 => ?_) (fun q10 => ?_)
        · replace h := ite_t h q10
          exact (fb_Mod_perform_183 o0  h).trans F
        · replace h := ite_f h q10
          refine em_f (c := (I MO 75 : Int32) = (14 : Int32)) (fun q11 => ?_) (fun q11 => ?_)
          · replace h := ite_f h q11
            exact (fb_Mod_perform_191 o0  h).trans F
          · replace h := ite_t h q11
            obtain ⟨c12, h⟩ := chk_e h
            refine em_t (c := (I A_registers (I MO 76 : Int32).toNatClampNeg : Int32) = 0) (fun q13 => ?_) (fun q13 => ?_)
            · replace h := ite_t h q13
              exact (fb_Mod_perform_191 o0  h).trans F
            · replace h := ite_f h q13
              exact (fb_Mod_perform_183 o0  h).trans F
    · replace h := ite_t h q8
      obtain ⟨c14, h⟩ := chk_e h
      obtain ⟨c15, h⟩ := chk_e h
      obtain ⟨I16, hI16, h⟩ := lt_x h
      replace F := (show I16 b = _ from by first | exact fr_up hI16 (by first | omega | (intro e; subst e; revert o0; decide)) | exact fr_fil hI16 (by omega) | exact fr_cpy hI16 (by omega)).trans F
      obtain ⟨c17, h⟩ := chk_e h
      obtain ⟨I18, hI18, h⟩ := lt_x h
      replace F := (show I18 b = _ from by first | exact fr_up hI18 (by first | omega | (intro e; subst e; revert o0; decide)) | exact fr_fil hI18 (by omega) | exact fr_cpy hI18 (by omega)).trans F
      obtain ⟨c19, h⟩ := chk_e h
      obtain ⟨I20, hI20, h⟩ := lt_x h
      replace F := (show I20 b = _ from by first | exact fr_up hI20 (by first | omega | (intro e; subst e; revert o0; decide)) | exact fr_fil hI20 (by omega) | exact fr_cpy hI20 (by omega)).trans F
      exact (fb_Mod_perform_334 o0  h).trans F
  · replace h := ite_t h q7
    obtain ⟨v21, e22, h⟩ := bnd_e h
    replace F := (fr_Mod_takeInput e22 (by first | omega | exact outA o0 (by decide))).trans F
    exact (fb_Mod_perform_334 o0  h).trans F
set_option maxRecDepth 20000 in
set_option maxHeartbeats 4000000 in
theorem fb_Mod_perform_44 {n : Nat} {b : Nat} {r : Int32 × IM} (o0 : b < 102 ∨ 102 + 39 ≤ b)  {x1 : Int32} {I : IM} (h : b_Mod_perform_44 n  x1 I = some r) : r.2 b = I b := by
  unfold b_Mod_perform_44 at h
  have F : I b = I b := rfl
  obtain ⟨v39, e40, h⟩ := bnd_e h
  obtain ⟨c41, h⟩ := chk_e h
  obtain ⟨I42, hI42, h⟩ := lt_x h
  replace F := (show I42 b = _ from by first | exact fr_up hI42 (by first | omega | (intro e; subst e; revert o0; decide)) | exact fr_fil hI42 (by omega) | exact fr_cpy hI42 (by omega)).trans F
  obtain ⟨c43, h⟩ := chk_e h
  obtain ⟨I44, hI44, h⟩ := lt_x h
  replace F := (show I44 b = _ from by first | exact fr_up hI44 (by first | omega | (intro e; subst e; revert o0; decide)) | exact fr_fil hI44 (by omega) | exact fr_cpy hI44 (by omega)).trans F
  exact (fb_Mod_perform_72 o0  h).trans F
set_option maxRecDepth 20000 in
set_option maxHeartbeats 4000000 in
theorem fr_Mod_perform {n : Nat} {I : IM} {b : Nat} {r : Int32 × IM}  (h : f_Mod_perform n I = some r) (o0 : b < 102 ∨ 102 + 39 ≤ b) : r.2 b = I b := by
  unfold f_Mod_perform at h
  have F : I b = I b := rfl
  obtain ⟨v1, e2, h⟩ := bnd_e h
  refine em_f (c := v1 = 0) (fun q3 => ?_) (fun q3 => ?_)
  · replace h := ite_f h q3
    exact (fb_Mod_perform_44 o0  h).trans F
  · replace h := ite_t h q3
    refine em_t (c := (I MO 75 : Int32) = (16 : Int32)) (fun q4 => ?_) (fun q4 => ?_)
    · replace h := ite_t h q4
      exact (fb_Mod_perform_44 o0  h).trans F
    · replace h := ite_f h q4
      refine em_t (c := (I MO 75 : Int32) = (18 : Int32)) (fun q5 => ?_) (fun q5 => ?_)
      · replace h := ite_t h q5
        exact (fb_Mod_perform_44 o0  h).trans F
      · replace h := ite_f h q5
        refine em_f (c := (I MO 75 : Int32) = (21 : Int32)) (fun q6 => ?_) (fun q6 => ?_)
        · replace h := ite_f h q6
          exact (fb_Mod_perform_72 o0  h).trans F
        · replace h := ite_t h q6
          exact (fb_Mod_perform_44 o0  h).trans F
set_option maxRecDepth 20000 in
set_option maxHeartbeats 4000000 in
theorem fr_Mod_noteAt {x1 : Int32} {x2 : Int32} {x3 : Int32} {x4 : Int32} {I : IM} {b : Nat} {r : IM}  (h : f_Mod_noteAt x1 x2 x3 x4 I = some r) (o0 : b < 102 ∨ 102 + 39 ≤ b) : r b = I b := by
  unfold f_Mod_noteAt at h
  have F : I b = I b := rfl
  obtain ⟨c1, h⟩ := chk_e h
  obtain ⟨I2, hI2, h⟩ := lt_x h
  replace F := (show I2 b = _ from by first | exact fr_up hI2 (by first | omega | (intro e; subst e; revert o0; decide)) | exact fr_fil hI2 (by omega) | exact fr_cpy hI2 (by omega)).trans F
  obtain ⟨c3, h⟩ := chk_e h
  obtain ⟨I4, hI4, h⟩ := lt_x h
  replace F := (show I4 b = _ from by first | exact fr_up hI4 (by first | omega | (intro e; subst e; revert o0; decide)) | exact fr_fil hI4 (by omega) | exact fr_cpy hI4 (by omega)).trans F
  obtain ⟨c5, h⟩ := chk_e h
  obtain ⟨I6, hI6, h⟩ := lt_x h
  replace F := (show I6 b = _ from by first | exact fr_up hI6 (by first | omega | (intro e; subst e; revert o0; decide)) | exact fr_fil hI6 (by omega) | exact fr_cpy hI6 (by omega)).trans F
  obtain ⟨c8, h⟩ := chk_e h
  obtain ⟨I9, hI9, h⟩ := lt_x h
  replace F := (show I9 b = _ from by first | exact fr_up hI9 (by first | omega | (intro e; subst e; revert o0; decide)) | exact fr_fil hI9 (by omega) | exact fr_cpy hI9 (by omega)).trans F
  obtain ⟨c11, h⟩ := chk_e h
  obtain ⟨I12, hI12, h⟩ := lt_x h
  replace F := (show I12 b = _ from by first | exact fr_up hI12 (by first | omega | (intro e; subst e; revert o0; decide)) | exact fr_fil hI12 (by omega) | exact fr_cpy hI12 (by omega)).trans F
  obtain ⟨c13, h⟩ := chk_e h
  obtain ⟨I14, hI14, h⟩ := lt_x h
  replace F := (show I14 b = _ from by first | exact fr_up hI14 (by first | omega | (intro e; subst e; revert o0; decide)) | exact fr_fil hI14 (by omega) | exact fr_cpy hI14 (by omega)).trans F
  obtain ⟨I15, hI15, h⟩ := lt_x h
  replace F := (show I15 b = _ from by first | exact fr_up hI15 (by first | omega | (intro e; subst e; revert o0; decide)) | exact fr_fil hI15 (by omega) | exact fr_cpy hI15 (by omega)).trans F
  cases h
  exact F
set_option maxRecDepth 20000 in
set_option maxHeartbeats 4000000 in
theorem fr_Mod_note {x1 : Int32} {x2 : Int32} {x3 : Int32} {I : IM} {b : Nat} {r : IM}  (h : f_Mod_note x1 x2 x3 I = some r) (o0 : b < 102 ∨ 102 + 39 ≤ b) : r b = I b := by
  unfold f_Mod_note at h
  have F : I b = I b := rfl
  obtain ⟨v1, e2, h⟩ := bnd_e h
  replace F := (fr_Mod_noteAt e2 (by first | omega | exact outA o0 (by decide))).trans F
  cases h
  exact F
set_option maxRecDepth 20000 in
set_option maxHeartbeats 4000000 in
theorem fb_Mod_instruct_62 {n : Nat} {b : Nat} {r : Int32 × IM} (o0 : b < 102 ∨ 102 + 39 ≤ b)  {x1 : Int32} {I : IM} (h : b_Mod_instruct_62 n  x1 I = some r) : r.2 b = I b := by
  unfold b_Mod_instruct_62 at h
  have F : I b = I b := rfl
  obtain ⟨I55, hI55, h⟩ := lt_x h
  replace F := (show I55 b = _ from by first | exact fr_up hI55 (by first | omega | (intro e; subst e; revert o0; decide)) | exact fr_fil hI55 (by omega) | exact fr_cpy hI55 (by omega)).trans F
  obtain ⟨v57, e58, h⟩ := bnd_e h
  replace F := (fr_Mod_note e58 (by first | omega | exact outA o0 (by decide))).trans F
  cases h
  exact F
set_option maxRecDepth 20000 in
set_option maxHeartbeats 4000000 in
theorem fb_Mod_instruct_266 {n : Nat} {b : Nat} {r : Int32 × IM} (o0 : b < 102 ∨ 102 + 39 ≤ b)   {I : IM} (h : b_Mod_instruct_266 n   I = some r) : r.2 b = I b := by
  unfold b_Mod_instruct_266 at h
  have F : I b = I b := rfl
  refine em_t (c := (I MO 50 : Int32) = 0) (fun q38 => ?_) (fun q38 => ?_)
  · replace h := ite_t h q38
    obtain ⟨c39, h⟩ := chk_e h
    obtain ⟨v40, e41, h⟩ := bnd_e h
    replace F := (fr_Mod_perform e41 (by first | omega | exact outA o0 (by decide))).trans F
    obtain ⟨I42, hI42, h⟩ := lt_x h
    replace F := (show I42 b = _ from by first | exact fr_up hI42 (by first | omega | (intro e; subst e; revert o0; decide)) | exact fr_fil hI42 (by omega) | exact fr_cpy hI42 (by omega)).trans F
    obtain ⟨c43, h⟩ := chk_e h
    obtain ⟨I44, hI44, h⟩ := lt_x h
    replace F := (show I44 b = _ from by first | exact fr_up hI44 (by first | omega | (intro e; subst e; revert o0; decide)) | exact fr_fil hI44 (by omega) | exact fr_cpy hI44 (by omega)).trans F
    obtain ⟨v45, e46, h⟩ := bnd_e h
    replace F := (fr_Mod_noteAt e46 (by first | omega | exact outA o0 (by decide))).trans F
    obtain ⟨I47, hI47, h⟩ := lt_x h
    replace F := (show I47 b = _ from by first | exact fr_up hI47 (by first | omega | (intro e; subst e; revert o0; decide)) | exact fr_fil hI47 (by omega) | exact fr_cpy hI47 (by omega)).trans F
    obtain ⟨I48, hI48, h⟩ := lt_x h
    replace F := (show I48 b = _ from by first | exact fr_up hI48 (by first | omega | (intro e; subst e; revert o0; decide)) | exact fr_fil hI48 (by omega) | exact fr_cpy hI48 (by omega)).trans F
    obtain ⟨I49, hI49, h⟩ := lt_x h
    replace F := (show I49 b = _ from by first | exact fr_up hI49 (by first | omega | (intro e; subst e; revert o0; decide)) | exact fr_fil hI49 (by omega) | exact fr_cpy hI49 (by omega)).trans F
    cases h
    exact F
  · replace h := ite_f h q38
    obtain ⟨I50, hI50, h⟩ := lt_x h
    replace F := (show I50 b = _ from by first | exact fr_up hI50 (by first | omega | (intro e; subst e; revert o0; decide)) | exact fr_fil hI50 (by omega) | exact fr_cpy hI50 (by omega)).trans F
    obtain ⟨c51, h⟩ := chk_e h
    obtain ⟨I52, hI52, h⟩ := lt_x h
    replace F := (show I52 b = _ from by first | exact fr_up hI52 (by first | omega | (intro e; subst e; revert o0; decide)) | exact fr_fil hI52 (by omega) | exact fr_cpy hI52 (by omega)).trans F
    obtain ⟨v53, e54, h⟩ := bnd_e h
    replace F := (fr_Mod_note e54 (by first | omega | exact outA o0 (by decide))).trans F
    cases h
    exact F
set_option maxRecDepth 20000 in
set_option maxHeartbeats 4000000 in
theorem fb_Mod_instruct_28 {n : Nat} {b : Nat} {r : Int32 × IM} (o0 : b < 102 ∨ 102 + 39 ≤ b)  {x1 : Int32} {y0 : Int32} {I : IM} (h : b_Mod_instruct_28 n  x1 y0 I = some r) : r.2 b = I b := by
  unfold b_Mod_instruct_28 at h
  have F : I b = I b := rfl
  obtain ⟨I5, hI5, h⟩ := lt_x h
  replace F := (show I5 b = _ from by first | exact fr_up hI5 (by first | omega | (intro e; subst e; revert o0; decide)) | exact fr_fil hI5 (by omega) | exact fr_cpy hI5 (by omega)).trans F
  refine em_t (c := x1 = 0) (fun q6 => ?_) (fun q6 => ?_)
  · replace h := ite_t h q6
    exact (fb_Mod_instruct_62 o0  h).trans F
  · replace h := ite_f h q6
    refine em_t (c := (22 : Int32) ≤ (I5 MO 75 : Int32)) (fun q7 => ?_) (fun q7 => ?_)
    · replace h := ite_t h q7
      exact (fb_Mod_instruct_62 o0  h).trans F
    · replace h := ite_f h q7
      obtain ⟨c8, h⟩ := chk_e h
      refine em_t (c := 0 ≤ (I5 A_ruleOf (I5 MO 75 : Int32).toNatClampNeg : Int32)) (fun q9 => ?_) (fun q9 => ?_)
      · replace h := ite_t h q9
        obtain ⟨I10, hI10, h⟩ := lt_x h
        replace F := (show I10 b = _ from by first | exact fr_up hI10 (by first | omega | (intro e; subst e; revert o0; decide)) | exact fr_fil hI10 (by omega) | exact fr_cpy hI10 (by omega)).trans F
        obtain ⟨I11, hI11, h⟩ := lt_x h
        replace F := (show I11 b = _ from by first | exact fr_up hI11 (by first | omega | (intro e; subst e; revert o0; decide)) | exact fr_fil hI11 (by omega) | exact fr_cpy hI11 (by omega)).trans F
        obtain ⟨I12, hI12, h⟩ := lt_x h
        replace F := (show I12 b = _ from by first | exact fr_up hI12 (by first | omega | (intro e; subst e; revert o0; decide)) | exact fr_fil hI12 (by omega) | exact fr_cpy hI12 (by omega)).trans F
        obtain ⟨I13, hI13, h⟩ := lt_x h
        replace F := (show I13 b = _ from by first | exact fr_up hI13 (by first | omega | (intro e; subst e; revert o0; decide)) | exact fr_fil hI13 (by omega) | exact fr_cpy hI13 (by omega)).trans F
        obtain ⟨c14, h⟩ := chk_e h
        obtain ⟨I15, hI15, h⟩ := lt_x h
        replace F := (show I15 b = _ from by first | exact fr_up hI15 (by first | omega | (intro e; subst e; revert o0; decide)) | exact fr_fil hI15 (by omega) | exact fr_cpy hI15 (by omega)).trans F
        obtain ⟨v16, e17, h⟩ := bnd_e h
        obtain ⟨c19, h⟩ := chk_e h
        obtain ⟨I18, hI18, h⟩ := lt_x h
        replace F := (show I18 b = _ from by first | exact fr_up hI18 (by first | omega | (intro e; subst e; revert o0; decide)) | exact fr_fil hI18 (by omega) | exact fr_cpy hI18 (by omega)).trans F
        obtain ⟨v20, e21, h⟩ := bnd_e h
        replace F := (fr_Mod_ask e21 (by first | omega | exact outA o0 (by decide))).trans F
        obtain ⟨I31, hI31, h⟩ := lt_x h
        replace F := (show I31 b = _ from by first | exact fr_up hI31 (by first | omega | (intro e; subst e; revert o0; decide)) | exact fr_fil hI31 (by omega) | exact fr_cpy hI31 (by omega)).trans F
        refine em_f (c := (I31 MO 50 : Int32) = 0) (fun q32 => ?_) (fun q32 => ?_)
        · replace h := ite_f h q32
          exact (fb_Mod_instruct_266 o0  h).trans F
        · replace h := ite_t h q32
          refine em_f (c := (I31 MO 75 : Int32) = (19 : Int32)) (fun q33 => ?_) (fun q33 => ?_)
          · replace h := ite_f h q33
            exact (fb_Mod_instruct_266 o0  h).trans F
          · replace h := ite_t h q33
            obtain ⟨v34, e35, h⟩ := bnd_e h
            replace F := (fr_Mod_make e35 (by first | omega | exact outA o0 (by decide))).trans F
            refine em_f (c := (v34.1 : Int32) = 0) (fun q36 => ?_) (fun q36 => ?_)
            · replace h := ite_f h q36
              exact (fb_Mod_instruct_266 o0  h).trans F
            · replace h := ite_t h q36
              obtain ⟨I37, hI37, h⟩ := lt_x h
              replace F := (show I37 b = _ from by first | exact fr_up hI37 (by first | omega | (intro e; subst e; revert o0; decide)) | exact fr_fil hI37 (by omega) | exact fr_cpy hI37 (by omega)).trans F
              exact (fb_Mod_instruct_266 o0  h).trans F
      · replace h := ite_f h q9
        exact (fb_Mod_instruct_62 o0  h).trans F
set_option maxRecDepth 20000 in
set_option maxHeartbeats 4000000 in
theorem fr_Mod_instruct {n : Nat} {I : IM} {b : Nat} {r : Int32 × IM}  (h : f_Mod_instruct n I = some r) (o0 : b < 102 ∨ 102 + 39 ≤ b) : r.2 b = I b := by
  unfold f_Mod_instruct at h
  have F : I b = I b := rfl
  obtain ⟨v1, e2, h⟩ := bnd_e h
  refine em_t (c := v1 = 0) (fun q3 => ?_) (fun q3 => ?_)
  · replace h := ite_t h q3
    exact (fb_Mod_instruct_28 o0  h).trans F
  · replace h := ite_f h q3
    obtain ⟨c4, h⟩ := chk_e h
    exact (fb_Mod_instruct_28 o0  h).trans F
set_option maxRecDepth 20000 in
set_option maxHeartbeats 4000000 in
theorem fb_Mod_run_93 {n : Nat} {b : Nat} {r : Int32 × IM} (o0 : b < 102 ∨ 102 + 39 ≤ b)  {x2 : Int32} {I : IM} (h : b_Mod_run_93 n  x2 I = some r) : r.2 b = I b := by
  unfold b_Mod_run_93 at h
  have F : I b = I b := rfl
  cases h
  exact F
set_option maxRecDepth 20000 in
set_option maxHeartbeats 4000000 in
theorem fl_Mod_run_63 {n : Nat} {b : Nat} {r : Int32 × IM} (o0 : b < 102 ∨ 102 + 39 ≤ b)  : ∀ (f : Nat) (x1 : Int32) (x2 : Int32) (I : IM), l_Mod_run_63 n  f x1 x2 I = some r → r.2 b = I b
  | 0, _, _, _, h => by cases h
  | f + 1, x1, x2, I, h => by
    have ih := fl_Mod_run_63 (b := b) (r := r) (n := n)   o0 f
    rw [l_Mod_run_63] at h
    have F : I b = I b := rfl
    refine em_t (c := x1 ≤ x2) (fun q11 => ?_) (fun q11 => ?_)
    · replace h := ite_t h q11
      exact (fb_Mod_run_93 o0  h).trans F
    · replace h := ite_f h q11
      refine em_f (c := (I MO 50 : Int32) = 0) (fun q12 => ?_) (fun q12 => ?_)
      · replace h := ite_f h q12
        exact (fb_Mod_run_93 o0  h).trans F
      · replace h := ite_t h q12
        obtain ⟨v13, e14, h⟩ := bnd_e h
        replace F := (fr_Mod_instruct e14 (by first | omega | exact outA o0 (by decide))).trans F
        exact (ih _ _ _ h).trans F
set_option maxRecDepth 20000 in
set_option maxHeartbeats 4000000 in
theorem fr_Mod_run {n : Nat} {x1 : Int32} {I : IM} {b : Nat} {r : Int32 × IM}  (h : f_Mod_run n x1 I = some r) (o0 : b < 102 ∨ 102 + 39 ≤ b) : r.2 b = I b := by
  unfold f_Mod_run at h
  have F : I b = I b := rfl
  obtain ⟨v1, e2, h⟩ := bnd_e h
  obtain ⟨v6, e7, h⟩ := bnd_e h
  replace F := (fr_Mod_refuse e7 (by first | omega | exact outA o0 (by decide))).trans F
  refine em_t (c := (v6.1 : Int32) = 0) (fun q8 => ?_) (fun q8 => ?_)
  · replace h := ite_t h q8
    obtain ⟨I10, hI10, h⟩ := lt_x h
    replace F := (show I10 b = _ from by first | exact fr_up hI10 (by first | omega | (intro e; subst e; revert o0; decide)) | exact fr_fil hI10 (by omega) | exact fr_cpy hI10 (by omega)).trans F
    exact (fl_Mod_run_63 o0  _ _ _ _ h).trans F
  · replace h := ite_f h q8
    cases h
    exact F
set_option maxRecDepth 20000 in
set_option maxHeartbeats 4000000 in
theorem fr_Mod_state {x1 : Int32} {I : IM} {b : Nat} {r : Int32 × IM}  (h : f_Mod_state x1 I = some r) (o0 : b < 102 ∨ 102 + 39 ≤ b) : r.2 b = I b := by
  unfold f_Mod_state at h
  have F : I b = I b := rfl
  obtain ⟨v1, e2, h⟩ := bnd_e h
  obtain ⟨v4, e5, h⟩ := bnd_e h
  replace F := (fr_Mod_refuse e5 (by first | omega | exact outA o0 (by decide))).trans F
  refine em_t (c := (v4.1 : Int32) = 0) (fun q6 => ?_) (fun q6 => ?_)
  · replace h := ite_t h q6
    refine em_t (c := x1 = 0) (fun q8 => ?_) (fun q8 => ?_)
    · replace h := ite_t h q8
      cases h
      exact F
    · replace h := ite_f h q8
      refine em_t (c := x1 = 1) (fun q9 => ?_) (fun q9 => ?_)
      · replace h := ite_t h q9
        cases h
        exact F
      · replace h := ite_f h q9
        refine em_t (c := x1 = 2) (fun q10 => ?_) (fun q10 => ?_)
        · replace h := ite_t h q10
          cases h
          exact F
        · replace h := ite_f h q10
          refine em_t (c := x1 = 3) (fun q11 => ?_) (fun q11 => ?_)
          · replace h := ite_t h q11
            cases h
            exact F
          · replace h := ite_f h q11
            refine em_t (c := x1 = 4) (fun q12 => ?_) (fun q12 => ?_)
            · replace h := ite_t h q12
              cases h
              exact F
            · replace h := ite_f h q12
              refine em_t (c := x1 = 5) (fun q13 => ?_) (fun q13 => ?_)
              · replace h := ite_t h q13
                cases h
                exact F
              · replace h := ite_f h q13
                refine em_t (c := x1 = 6) (fun q14 => ?_) (fun q14 => ?_)
                · replace h := ite_t h q14
                  cases h
                  exact F
                · replace h := ite_f h q14
                  refine em_t (c := x1 = 7) (fun q15 => ?_) (fun q15 => ?_)
                  · replace h := ite_t h q15
                    cases h
                    exact F
                  · replace h := ite_f h q15
                    refine em_t (c := x1 = 8) (fun q16 => ?_) (fun q16 => ?_)
                    · replace h := ite_t h q16
                      cases h
                      exact F
                    · replace h := ite_f h q16
                      cases h
                      exact F
  · replace h := ite_f h q6
    cases h
    exact F
set_option maxRecDepth 20000 in
set_option maxHeartbeats 4000000 in
theorem fb_Mod_registerOf_87 {b : Nat} {r : Int32 × IM} (o0 : b < 102 ∨ 102 + 39 ≤ b)  {y0 : Int32} {I : IM} (h : b_Mod_registerOf_87   y0 I = some r) : r.2 b = I b := by
  unfold b_Mod_registerOf_87 at h
  have F : I b = I b := rfl
  cases h
  exact F
set_option maxRecDepth 20000 in
set_option maxHeartbeats 4000000 in
theorem fb_Mod_registerOf_36 {b : Nat} {r : Int32 × IM} (o0 : b < 102 ∨ 102 + 39 ≤ b)  {x1 : Int32} {x2 : Int32} {y2 : Int32} {y1 : Int32} {I : IM} (h : b_Mod_registerOf_36   x1 x2 y2 y1 I = some r) : r.2 b = I b := by
  unfold b_Mod_registerOf_36 at h
  have F : I b = I b := rfl
  obtain ⟨v16, e17, h⟩ := bnd_e h
  replace F := (fr_Mod_refuse e17 (by first | omega | exact outA o0 (by decide))).trans F
  refine em_t (c := (v16.1 : Int32) = 0) (fun q18 => ?_) (fun q18 => ?_)
  · replace h := ite_t h q18
    refine em_f (c := x1 = (8 : Int32)) (fun q19 => ?_) (fun q19 => ?_)
    · replace h := ite_f h q19
      refine em_f (c := x2 = 0) (fun q20 => ?_) (fun q20 => ?_)
      · replace h := ite_f h q20
        obtain ⟨c21, h⟩ := chk_e h
        exact (fb_Mod_registerOf_87 o0  h).trans F
      · replace h := ite_t h q20
        obtain ⟨c22, h⟩ := chk_e h
        exact (fb_Mod_registerOf_87 o0  h).trans F
    · replace h := ite_t h q19
      cases h
      exact F
  · replace h := ite_f h q18
    cases h
    exact F
set_option maxRecDepth 20000 in
set_option maxHeartbeats 4000000 in
theorem fb_Mod_registerOf_35 {b : Nat} {r : Int32 × IM} (o0 : b < 102 ∨ 102 + 39 ≤ b)  {x1 : Int32} {x2 : Int32} {y1 : Int32} {I : IM} (h : b_Mod_registerOf_35   x1 x2 y1 I = some r) : r.2 b = I b := by
  unfold b_Mod_registerOf_35 at h
  have F : I b = I b := rfl
  exact (fb_Mod_registerOf_36 o0  h).trans F
set_option maxRecDepth 20000 in
set_option maxHeartbeats 4000000 in
theorem fr_Mod_registerOf {x1 : Int32} {x2 : Int32} {I : IM} {b : Nat} {r : Int32 × IM}  (h : f_Mod_registerOf x1 x2 I = some r) (o0 : b < 102 ∨ 102 + 39 ≤ b) : r.2 b = I b := by
  unfold f_Mod_registerOf at h
  have F : I b = I b := rfl
  obtain ⟨v1, e2, h⟩ := bnd_e h
  refine em_t (c := v1 = 0) (fun q4 => ?_) (fun q4 => ?_)
  · replace h := ite_t h q4
    exact (fb_Mod_registerOf_35 o0  h).trans F
  · replace h := ite_f h q4
    obtain ⟨v5, e6, h⟩ := bnd_e h
    obtain ⟨v8, e9, h⟩ := bnd_e h
    replace F := (fr_Mod_refuse e9 (by first | omega | exact outA o0 (by decide))).trans F
    refine em_t (c := (v8.1 : Int32) = 0) (fun q10 => ?_) (fun q10 => ?_)
    · replace h := ite_t h q10
      refine em_f (c := x1 = (8 : Int32)) (fun q11 => ?_) (fun q11 => ?_)
      · replace h := ite_f h q11
        refine em_f (c := x2 = 0) (fun q12 => ?_) (fun q12 => ?_)
        · replace h := ite_f h q12
          obtain ⟨c13, h⟩ := chk_e h
          exact (fb_Mod_registerOf_87 o0  h).trans F
        · replace h := ite_t h q12
          obtain ⟨c14, h⟩ := chk_e h
          exact (fb_Mod_registerOf_87 o0  h).trans F
      · replace h := ite_t h q11
        cases h
        exact F
    · replace h := ite_f h q10
      cases h
      exact F
set_option maxRecDepth 20000 in
set_option maxHeartbeats 4000000 in
theorem fb_Mod_wordOf_75 {b : Nat} {r : Int32 × IM} (o0 : b < 102 ∨ 102 + 39 ≤ b)  {y0 : Int32} {I : IM} (h : b_Mod_wordOf_75   y0 I = some r) : r.2 b = I b := by
  unfold b_Mod_wordOf_75 at h
  have F : I b = I b := rfl
  cases h
  exact F
set_option maxRecDepth 20000 in
set_option maxHeartbeats 4000000 in
theorem fb_Mod_wordOf_34 {b : Nat} {r : Int32 × IM} (o0 : b < 102 ∨ 102 + 39 ≤ b)  {x1 : Int32} {x2 : Int32} {y2 : Int32} {y1 : Int32} {I : IM} (h : b_Mod_wordOf_34   x1 x2 y2 y1 I = some r) : r.2 b = I b := by
  unfold b_Mod_wordOf_34 at h
  have F : I b = I b := rfl
  obtain ⟨v18, e19, h⟩ := bnd_e h
  replace F := (fr_Mod_refuse e19 (by first | omega | exact outA o0 (by decide))).trans F
  refine em_t (c := (v18.1 : Int32) = 0) (fun q20 => ?_) (fun q20 => ?_)
  · replace h := ite_t h q20
    refine em_f (c := x2 = 0) (fun q21 => ?_) (fun q21 => ?_)
    · replace h := ite_f h q21
      refine em_f (c := x2 = (1 : Int32)) (fun q22 => ?_) (fun q22 => ?_)
      · replace h := ite_f h q22
        obtain ⟨c23, h⟩ := chk_e h
        exact (fb_Mod_wordOf_75 o0  h).trans F
      · replace h := ite_t h q22
        obtain ⟨c24, h⟩ := chk_e h
        exact (fb_Mod_wordOf_75 o0  h).trans F
    · replace h := ite_t h q21
      obtain ⟨c25, h⟩ := chk_e h
      exact (fb_Mod_wordOf_75 o0  h).trans F
  · replace h := ite_f h q20
    cases h
    exact F
set_option maxRecDepth 20000 in
set_option maxHeartbeats 4000000 in
theorem fb_Mod_wordOf_33 {b : Nat} {r : Int32 × IM} (o0 : b < 102 ∨ 102 + 39 ≤ b)  {x1 : Int32} {x2 : Int32} {y1 : Int32} {I : IM} (h : b_Mod_wordOf_33   x1 x2 y1 I = some r) : r.2 b = I b := by
  unfold b_Mod_wordOf_33 at h
  have F : I b = I b := rfl
  exact (fb_Mod_wordOf_34 o0  h).trans F
set_option maxRecDepth 20000 in
set_option maxHeartbeats 4000000 in
theorem fr_Mod_wordOf {x1 : Int32} {x2 : Int32} {I : IM} {b : Nat} {r : Int32 × IM}  (h : f_Mod_wordOf x1 x2 I = some r) (o0 : b < 102 ∨ 102 + 39 ≤ b) : r.2 b = I b := by
  unfold f_Mod_wordOf at h
  have F : I b = I b := rfl
  obtain ⟨v1, e2, h⟩ := bnd_e h
  obtain ⟨v4, e5, h⟩ := bnd_e h
  refine em_t (c := v4 = 0) (fun q6 => ?_) (fun q6 => ?_)
  · replace h := ite_t h q6
    exact (fb_Mod_wordOf_33 o0  h).trans F
  · replace h := ite_f h q6
    obtain ⟨v7, e8, h⟩ := bnd_e h
    obtain ⟨v10, e11, h⟩ := bnd_e h
    replace F := (fr_Mod_refuse e11 (by first | omega | exact outA o0 (by decide))).trans F
    refine em_t (c := (v10.1 : Int32) = 0) (fun q12 => ?_) (fun q12 => ?_)
    · replace h := ite_t h q12
      refine em_f (c := x2 = 0) (fun q13 => ?_) (fun q13 => ?_)
      · replace h := ite_f h q13
        refine em_f (c := x2 = (1 : Int32)) (fun q14 => ?_) (fun q14 => ?_)
        · replace h := ite_f h q14
          obtain ⟨c15, h⟩ := chk_e h
          exact (fb_Mod_wordOf_75 o0  h).trans F
        · replace h := ite_t h q14
          obtain ⟨c16, h⟩ := chk_e h
          exact (fb_Mod_wordOf_75 o0  h).trans F
      · replace h := ite_t h q13
        obtain ⟨c17, h⟩ := chk_e h
        exact (fb_Mod_wordOf_75 o0  h).trans F
    · replace h := ite_f h q12
      cases h
      exact F
set_option maxRecDepth 20000 in
set_option maxHeartbeats 4000000 in
theorem fb_Mod_output_51 {b : Nat} {r : Int32 × IM} (o0 : b < 102 ∨ 102 + 39 ≤ b)  {y0 : Int32} {I : IM} (h : b_Mod_output_51   y0 I = some r) : r.2 b = I b := by
  unfold b_Mod_output_51 at h
  have F : I b = I b := rfl
  cases h
  exact F
set_option maxRecDepth 20000 in
set_option maxHeartbeats 4000000 in
theorem fr_Mod_output {x1 : Int32} {I : IM} {b : Nat} {r : Int32 × IM}  (h : f_Mod_output x1 I = some r) (o0 : b < 102 ∨ 102 + 39 ≤ b) : r.2 b = I b := by
  unfold f_Mod_output at h
  have F : I b = I b := rfl
  obtain ⟨v2, e3, h⟩ := bnd_e h
  obtain ⟨v5, e6, h⟩ := bnd_e h
  replace F := (fr_Mod_refuse e6 (by first | omega | exact outA o0 (by decide))).trans F
  refine em_t (c := (v5.1 : Int32) = 0) (fun q7 => ?_) (fun q7 => ?_)
  · replace h := ite_t h q7
    obtain ⟨c8, h⟩ := chk_e h
    exact (fb_Mod_output_51 o0  h).trans F
  · replace h := ite_f h q7
    exact (fb_Mod_output_51 o0  h).trans F
set_option maxRecDepth 20000 in
set_option maxHeartbeats 4000000 in
theorem fb_Mod_pairOf_67 {b : Nat} {r : Int32 × IM} (o0 : b < 102 ∨ 102 + 39 ≤ b)  {y0 : Int32} {I : IM} (h : b_Mod_pairOf_67   y0 I = some r) : r.2 b = I b := by
  unfold b_Mod_pairOf_67 at h
  have F : I b = I b := rfl
  cases h
  exact F
set_option maxRecDepth 20000 in
set_option maxHeartbeats 4000000 in
theorem fb_Mod_pairOf_40 {b : Nat} {r : Int32 × IM} (o0 : b < 102 ∨ 102 + 39 ≤ b)  {x1 : Int32} {x2 : Int32} {y2 : Int32} {y1 : Int32} {I : IM} (h : b_Mod_pairOf_40   x1 x2 y2 y1 I = some r) : r.2 b = I b := by
  unfold b_Mod_pairOf_40 at h
  have F : I b = I b := rfl
  obtain ⟨v14, e15, h⟩ := bnd_e h
  replace F := (fr_Mod_refuse e15 (by first | omega | exact outA o0 (by decide))).trans F
  refine em_t (c := (v14.1 : Int32) = 0) (fun q16 => ?_) (fun q16 => ?_)
  · replace h := ite_t h q16
    refine em_f (c := x2 = 0) (fun q17 => ?_) (fun q17 => ?_)
    · replace h := ite_f h q17
      obtain ⟨c18, h⟩ := chk_e h
      exact (fb_Mod_pairOf_67 o0  h).trans F
    · replace h := ite_t h q17
      obtain ⟨c19, h⟩ := chk_e h
      exact (fb_Mod_pairOf_67 o0  h).trans F
  · replace h := ite_f h q16
    cases h
    exact F
set_option maxRecDepth 20000 in
set_option maxHeartbeats 4000000 in
theorem fb_Mod_pairOf_39 {b : Nat} {r : Int32 × IM} (o0 : b < 102 ∨ 102 + 39 ≤ b)  {x1 : Int32} {x2 : Int32} {y1 : Int32} {I : IM} (h : b_Mod_pairOf_39   x1 x2 y1 I = some r) : r.2 b = I b := by
  unfold b_Mod_pairOf_39 at h
  have F : I b = I b := rfl
  exact (fb_Mod_pairOf_40 o0  h).trans F
set_option maxRecDepth 20000 in
set_option maxHeartbeats 4000000 in
theorem fr_Mod_pairOf {x1 : Int32} {x2 : Int32} {I : IM} {b : Nat} {r : Int32 × IM}  (h : f_Mod_pairOf x1 x2 I = some r) (o0 : b < 102 ∨ 102 + 39 ≤ b) : r.2 b = I b := by
  unfold f_Mod_pairOf at h
  have F : I b = I b := rfl
  obtain ⟨v1, e2, h⟩ := bnd_e h
  refine em_t (c := v1 = 0) (fun q4 => ?_) (fun q4 => ?_)
  · replace h := ite_t h q4
    exact (fb_Mod_pairOf_39 o0  h).trans F
  · replace h := ite_f h q4
    obtain ⟨v5, e6, h⟩ := bnd_e h
    obtain ⟨v8, e9, h⟩ := bnd_e h
    replace F := (fr_Mod_refuse e9 (by first | omega | exact outA o0 (by decide))).trans F
    refine em_t (c := (v8.1 : Int32) = 0) (fun q10 => ?_) (fun q10 => ?_)
    · replace h := ite_t h q10
      refine em_f (c := x2 = 0) (fun q11 => ?_) (fun q11 => ?_)
      · replace h := ite_f h q11
        obtain ⟨c12, h⟩ := chk_e h
        exact (fb_Mod_pairOf_67 o0  h).trans F
      · replace h := ite_t h q11
        obtain ⟨c13, h⟩ := chk_e h
        exact (fb_Mod_pairOf_67 o0  h).trans F
    · replace h := ite_f h q10
      cases h
      exact F
set_option maxRecDepth 20000 in
set_option maxHeartbeats 4000000 in
theorem fr_Mod_blame {I : IM} {b : Nat} {r : Int32 × IM}  (h : f_Mod_blame  I = some r) (o0 : b < 102 ∨ 102 + 39 ≤ b) : r.2 b = I b := by
  unfold f_Mod_blame at h
  have F : I b = I b := rfl
  obtain ⟨I1, hI1, h⟩ := lt_x h
  replace F := (show I1 b = _ from by first | exact fr_up hI1 (by first | omega | (intro e; subst e; revert o0; decide)) | exact fr_fil hI1 (by omega) | exact fr_cpy hI1 (by omega)).trans F
  cases h
  exact F
set_option maxRecDepth 20000 in
set_option maxHeartbeats 4000000 in
theorem fb_Mod_journal_54 {b : Nat} {r : Int32 × IM} (o0 : b < 102 ∨ 102 + 39 ≤ b)  {x1 : Int32} {x2 : Int32} {y2 : Int32} {y1 : Int32} {I : IM} (h : b_Mod_journal_54   x1 x2 y2 y1 I = some r) : r.2 b = I b := by
  unfold b_Mod_journal_54 at h
  have F : I b = I b := rfl
  obtain ⟨v13, e14, h⟩ := bnd_e h
  replace F := (fr_Mod_refuse e14 (by first | omega | exact outA o0 (by decide))).trans F
  refine em_t (c := (v13.1 : Int32) = 0) (fun q15 => ?_) (fun q15 => ?_)
  · replace h := ite_t h q15
    obtain ⟨c16, h⟩ := chk_e h
    cases h
    exact F
  · replace h := ite_f h q15
    cases h
    exact F
set_option maxRecDepth 20000 in
set_option maxHeartbeats 4000000 in
theorem fb_Mod_journal_53 {b : Nat} {r : Int32 × IM} (o0 : b < 102 ∨ 102 + 39 ≤ b)  {x1 : Int32} {x2 : Int32} {y1 : Int32} {I : IM} (h : b_Mod_journal_53   x1 x2 y1 I = some r) : r.2 b = I b := by
  unfold b_Mod_journal_53 at h
  have F : I b = I b := rfl
  exact (fb_Mod_journal_54 o0  h).trans F
set_option maxRecDepth 20000 in
set_option maxHeartbeats 4000000 in
theorem fr_Mod_journal {x1 : Int32} {x2 : Int32} {I : IM} {b : Nat} {r : Int32 × IM}  (h : f_Mod_journal x1 x2 I = some r) (o0 : b < 102 ∨ 102 + 39 ≤ b) : r.2 b = I b := by
  unfold f_Mod_journal at h
  have F : I b = I b := rfl
  obtain ⟨v2, e3, h⟩ := bnd_e h
  refine em_t (c := v2 = 0) (fun q5 => ?_) (fun q5 => ?_)
  · replace h := ite_t h q5
    exact (fb_Mod_journal_53 o0  h).trans F
  · replace h := ite_f h q5
    obtain ⟨v6, e7, h⟩ := bnd_e h
    obtain ⟨v9, e10, h⟩ := bnd_e h
    replace F := (fr_Mod_refuse e10 (by first | omega | exact outA o0 (by decide))).trans F
    refine em_t (c := (v9.1 : Int32) = 0) (fun q11 => ?_) (fun q11 => ?_)
    · replace h := ite_t h q11
      obtain ⟨c12, h⟩ := chk_e h
      cases h
      exact F
    · replace h := ite_f h q11
      cases h
      exact F
set_option maxRecDepth 20000 in
set_option maxHeartbeats 4000000 in
theorem fb_Mod_count_25 {b : Nat} {r : Int32 × IM} (o0 : b < 102 ∨ 102 + 39 ≤ b)  {x1 : Int32} {x2 : Int32} {y1 : Int32} {I : IM} (h : b_Mod_count_25   x1 x2 y1 I = some r) : r.2 b = I b := by
  unfold b_Mod_count_25 at h
  have F : I b = I b := rfl
  obtain ⟨v11, e12, h⟩ := bnd_e h
  replace F := (fr_Mod_refuse e12 (by first | omega | exact outA o0 (by decide))).trans F
  refine em_t (c := (v11.1 : Int32) = 0) (fun q13 => ?_) (fun q13 => ?_)
  · replace h := ite_t h q13
    obtain ⟨c14, h⟩ := chk_e h
    cases h
    exact F
  · replace h := ite_f h q13
    cases h
    exact F
set_option maxRecDepth 20000 in
set_option maxHeartbeats 4000000 in
theorem fb_Mod_count_20 {b : Nat} {r : Int32 × IM} (o0 : b < 102 ∨ 102 + 39 ≤ b)  {x1 : Int32} {x2 : Int32} {I : IM} (h : b_Mod_count_20   x1 x2 I = some r) : r.2 b = I b := by
  unfold b_Mod_count_20 at h
  have F : I b = I b := rfl
  exact (fb_Mod_count_25 o0  h).trans F
set_option maxRecDepth 20000 in
set_option maxHeartbeats 4000000 in
theorem fr_Mod_count {x1 : Int32} {x2 : Int32} {I : IM} {b : Nat} {r : Int32 × IM}  (h : f_Mod_count x1 x2 I = some r) (o0 : b < 102 ∨ 102 + 39 ≤ b) : r.2 b = I b := by
  unfold f_Mod_count at h
  have F : I b = I b := rfl
  obtain ⟨v1, e2, h⟩ := bnd_e h
  refine em_t (c := v1 = 0) (fun q3 => ?_) (fun q3 => ?_)
  · replace h := ite_t h q3
    exact (fb_Mod_count_20 o0  h).trans F
  · replace h := ite_f h q3
    obtain ⟨v4, e5, h⟩ := bnd_e h
    obtain ⟨v7, e8, h⟩ := bnd_e h
    replace F := (fr_Mod_refuse e8 (by first | omega | exact outA o0 (by decide))).trans F
    refine em_t (c := (v7.1 : Int32) = 0) (fun q9 => ?_) (fun q9 => ?_)
    · replace h := ite_t h q9
      obtain ⟨c10, h⟩ := chk_e h
      cases h
      exact F
    · replace h := ite_f h q9
      cases h
      exact F
set_option maxRecDepth 20000 in
set_option maxHeartbeats 4000000 in
theorem fb_Mod_cacheOf_206 {n : Nat} {b : Nat} {r : Int32 × IM} (o0 : b < 102 ∨ 102 + 39 ≤ b)  {y0 : Int32} {I : IM} (h : b_Mod_cacheOf_206 n  y0 I = some r) : r.2 b = I b := by
  unfold b_Mod_cacheOf_206 at h
  have F : I b = I b := rfl
  cases h
  exact F
set_option maxRecDepth 20000 in
set_option maxHeartbeats 4000000 in
theorem fb_Mod_cacheOf_205 {n : Nat} {b : Nat} {r : Int32 × IM} (o0 : b < 102 ∨ 102 + 39 ≤ b)   {I : IM} (h : b_Mod_cacheOf_205 n   I = some r) : r.2 b = I b := by
  unfold b_Mod_cacheOf_205 at h
  have F : I b = I b := rfl
  exact (fb_Mod_cacheOf_206 o0  h).trans F
set_option maxRecDepth 20000 in
set_option maxHeartbeats 4000000 in
theorem fb_Mod_cacheOf_81 {n : Nat} {b : Nat} {r : Int32 × IM} (o0 : b < 102 ∨ 102 + 39 ≤ b)  {x2 : Int32} {y0 : Int32} {I : IM} (h : b_Mod_cacheOf_81 n  x2 y0 I = some r) : r.2 b = I b := by
  unfold b_Mod_cacheOf_81 at h
  have F : I b = I b := rfl
  refine em_f (c := x2 = 0) (fun q15 => ?_) (fun q15 => ?_)
  · replace h := ite_f h q15
    refine em_t (c := x2 ≤ (9 : Int32)) (fun q16 => ?_) (fun q16 => ?_)
    · replace h := ite_t h q16
      obtain ⟨c17, h⟩ := chk_e h
      refine em_f (c := x2 = (1 : Int32)) (fun q19 => ?_) (fun q19 => ?_)
      · replace h := ite_f h q19
        refine em_f (c := (if (I A_answers (5 * y0 : Int32).toNatClampNeg : Int32) = (3 : Int32) then 1 else 0 : Int32) = 0) (fun q20 => ?_) (fun q20 => ?_)
        · replace h := ite_f h q20
          exact (fb_Mod_cacheOf_205 o0  h).trans F
        · replace h := ite_t h q20
          obtain ⟨c21, h⟩ := chk_e h
          obtain ⟨c22, h⟩ := chk_e h
          obtain ⟨v23, e24, h⟩ := bnd_e h
          refine em_t (c := v23 = 0) (fun q25 => ?_) (fun q25 => ?_)
          · replace h := ite_t h q25
            exact (fb_Mod_cacheOf_205 o0  h).trans F
          · replace h := ite_f h q25
            obtain ⟨c26, h⟩ := chk_e h
            exact (fb_Mod_cacheOf_206 o0  h).trans F
      · replace h := ite_t h q19
        cases h
        exact F
    · replace h := ite_f h q16
      obtain ⟨c28, h⟩ := chk_e h
      cases h
      exact F
  · replace h := ite_t h q15
    obtain ⟨c29, h⟩ := chk_e h
    cases h
    exact F
set_option maxRecDepth 20000 in
set_option maxHeartbeats 4000000 in
theorem fb_Mod_cacheOf_51 {n : Nat} {b : Nat} {r : Int32 × IM} (o0 : b < 102 ∨ 102 + 39 ≤ b)  {x1 : Int32} {x2 : Int32} {y2 : Int32} {y1 : Int32} {I : IM} (h : b_Mod_cacheOf_51 n  x1 x2 y2 y1 I = some r) : r.2 b = I b := by
  unfold b_Mod_cacheOf_51 at h
  have F : I b = I b := rfl
  obtain ⟨v30, e31, h⟩ := bnd_e h
  replace F := (fr_Mod_refuse e31 (by first | omega | exact outA o0 (by decide))).trans F
  refine em_t (c := (v30.1 : Int32) = 0) (fun q32 => ?_) (fun q32 => ?_)
  · replace h := ite_t h q32
    refine em_t (c := (8 : Int32) ≤ (v30.2 MO 58 : Int32)) (fun q33 => ?_) (fun q33 => ?_)
    · replace h := ite_t h q33
      exact (fb_Mod_cacheOf_81 o0  h).trans F
    · replace h := ite_f h q33
      exact (fb_Mod_cacheOf_81 o0  h).trans F
  · replace h := ite_f h q32
    cases h
    exact F
set_option maxRecDepth 20000 in
set_option maxHeartbeats 4000000 in
theorem fb_Mod_cacheOf_50 {n : Nat} {b : Nat} {r : Int32 × IM} (o0 : b < 102 ∨ 102 + 39 ≤ b)  {x1 : Int32} {x2 : Int32} {y1 : Int32} {I : IM} (h : b_Mod_cacheOf_50 n  x1 x2 y1 I = some r) : r.2 b = I b := by
  unfold b_Mod_cacheOf_50 at h
  have F : I b = I b := rfl
  exact (fb_Mod_cacheOf_51 o0  h).trans F
set_option maxRecDepth 20000 in
set_option maxHeartbeats 4000000 in
theorem fr_Mod_cacheOf {n : Nat} {x1 : Int32} {x2 : Int32} {I : IM} {b : Nat} {r : Int32 × IM}  (h : f_Mod_cacheOf n x1 x2 I = some r) (o0 : b < 102 ∨ 102 + 39 ≤ b) : r.2 b = I b := by
  unfold f_Mod_cacheOf at h
  have F : I b = I b := rfl
  obtain ⟨v1, e2, h⟩ := bnd_e h
  refine em_t (c := v1 = 0) (fun q4 => ?_) (fun q4 => ?_)
  · replace h := ite_t h q4
    exact (fb_Mod_cacheOf_50 o0  h).trans F
  · replace h := ite_f h q4
    obtain ⟨v5, e6, h⟩ := bnd_e h
    refine em_f (c := v5 = 0) (fun q7 => ?_) (fun q7 => ?_)
    · replace h := ite_f h q7
      exact (fb_Mod_cacheOf_50 o0  h).trans F
    · replace h := ite_t h q7
      obtain ⟨v8, e9, h⟩ := bnd_e h
      obtain ⟨v11, e12, h⟩ := bnd_e h
      replace F := (fr_Mod_refuse e12 (by first | omega | exact outA o0 (by decide))).trans F
      refine em_t (c := (v11.1 : Int32) = 0) (fun q13 => ?_) (fun q13 => ?_)
      · replace h := ite_t h q13
        refine em_t (c := (8 : Int32) ≤ (v11.2 MO 58 : Int32)) (fun q14 => ?_) (fun q14 => ?_)
        · replace h := ite_t h q14
          exact (fb_Mod_cacheOf_81 o0  h).trans F
        · replace h := ite_f h q14
          exact (fb_Mod_cacheOf_81 o0  h).trans F
      · replace h := ite_f h q13
        cases h
        exact F
set_option maxRecDepth 20000 in
set_option maxHeartbeats 4000000 in
theorem fb_Mod_keep_83 {n : Nat} {b : Nat} {r : IM} (o0 : b < 102 ∨ 102 + 39 ≤ b) {H7 : Int32 → IM → Option (IM)} (hH7 : ∀ (x1 : Int32) (I : IM), H7 x1 I = some r → r b = I b) {x1 : Int32} {y2 : Int32} {y1 : Int32} {I : IM} (h : b_Mod_keep_83 n H7 x1 y2 y1 I = some r) : r b = I b := by
  unfold b_Mod_keep_83 at h
  have F : I b = I b := rfl
  obtain ⟨c8, h⟩ := chk_e h
  obtain ⟨I9, hI9, h⟩ := lt_x h
  replace F := (show I9 b = _ from by first | exact fr_up hI9 (by first | omega | (intro e; subst e; revert o0; decide)) | exact fr_fil hI9 (by omega) | exact fr_cpy hI9 (by omega)).trans F
  exact (hH7 _ _ h).trans F
set_option maxRecDepth 20000 in
set_option maxHeartbeats 4000000 in
theorem fb_Mod_keep_64 {n : Nat} {b : Nat} {r : IM} (o0 : b < 102 ∨ 102 + 39 ≤ b) {H7 : Int32 → IM → Option (IM)} (hH7 : ∀ (x1 : Int32) (I : IM), H7 x1 I = some r → r b = I b) {x1 : Int32} {y1 : Int32} {I : IM} (h : b_Mod_keep_64 n H7 x1 y1 I = some r) : r b = I b := by
  unfold b_Mod_keep_64 at h
  have F : I b = I b := rfl
  obtain ⟨c10, h⟩ := chk_e h
  exact (fb_Mod_keep_83 o0 hH7 h).trans F
set_option maxRecDepth 20000 in
set_option maxHeartbeats 4000000 in
theorem fb_Mod_keep_273 {n : Nat} {b : Nat} {r : IM} (o0 : b < 102 ∨ 102 + 39 ≤ b) {H236 : Int32 → IM → Option (IM)} (hH236 : ∀ (x1 : Int32) (I : IM), H236 x1 I = some r → r b = I b) {x1 : Int32} {y2 : Int32} {y1 : Int32} {I : IM} (h : b_Mod_keep_273 n H236 x1 y2 y1 I = some r) : r b = I b := by
  unfold b_Mod_keep_273 at h
  have F : I b = I b := rfl
  obtain ⟨c26, h⟩ := chk_e h
  obtain ⟨I27, hI27, h⟩ := lt_x h
  replace F := (show I27 b = _ from by first | exact fr_up hI27 (by first | omega | (intro e; subst e; revert o0; decide)) | exact fr_fil hI27 (by omega) | exact fr_cpy hI27 (by omega)).trans F
  exact (hH236 _ _ h).trans F
set_option maxRecDepth 20000 in
set_option maxHeartbeats 4000000 in
theorem fl_Mod_keep_236 {n : Nat} {b : Nat} {r : IM} (o0 : b < 102 ∨ 102 + 39 ≤ b)  : ∀ (f : Nat) (x1 : Int32) (I : IM), l_Mod_keep_236 n  f x1 I = some r → r b = I b
  | 0, _, _, h => by cases h
  | f + 1, x1, I, h => by
    have ih := fl_Mod_keep_236 (b := b) (r := r) (n := n)   o0 f
    rw [l_Mod_keep_236] at h
    have F : I b = I b := rfl
    refine em_t (c := (22 : Int32) ≤ x1) (fun q23 => ?_) (fun q23 => ?_)
    · replace h := ite_t h q23
      cases h
      exact F
    · replace h := ite_f h q23
      obtain ⟨c24, h⟩ := chk_e h
      refine em_t (c := 0 ≤ (I A_ruleOf x1.toNatClampNeg : Int32)) (fun q25 => ?_) (fun q25 => ?_)
      · replace h := ite_t h q25
        exact (fb_Mod_keep_273 o0 ih h).trans F
      · replace h := ite_f h q25
        exact (fb_Mod_keep_273 o0 ih h).trans F
set_option maxRecDepth 20000 in
set_option maxHeartbeats 4000000 in
theorem fl_Mod_keep_164 {n : Nat} {b : Nat} {r : IM} (o0 : b < 102 ∨ 102 + 39 ≤ b)  : ∀ (f : Nat) (x1 : Int32) (I : IM), l_Mod_keep_164 n  f x1 I = some r → r b = I b
  | 0, _, _, h => by cases h
  | f + 1, x1, I, h => by
    have ih := fl_Mod_keep_164 (b := b) (r := r) (n := n)   o0 f
    rw [l_Mod_keep_164] at h
    have F : I b = I b := rfl
    refine em_t (c := (I MO 23 : Int32) ≤ x1) (fun q17 => ?_) (fun q17 => ?_)
    · replace h := ite_t h q17
      exact (fl_Mod_keep_236 o0  _ _ _ h).trans F
    · replace h := ite_f h q17
      obtain ⟨c18, h⟩ := chk_e h
      obtain ⟨c19, h⟩ := chk_e h
      obtain ⟨I20, hI20, h⟩ := lt_x h
      replace F := (show I20 b = _ from by first | exact fr_up hI20 (by first | omega | (intro e; subst e; revert o0; decide)) | exact fr_fil hI20 (by omega) | exact fr_cpy hI20 (by omega)).trans F
      obtain ⟨I21, hI21, h⟩ := lt_x h
      replace F := (show I21 b = _ from by first | exact fr_up hI21 (by first | omega | (intro e; subst e; revert o0; decide)) | exact fr_fil hI21 (by omega) | exact fr_cpy hI21 (by omega)).trans F
      obtain ⟨I22, hI22, h⟩ := lt_x h
      replace F := (show I22 b = _ from by first | exact fr_up hI22 (by first | omega | (intro e; subst e; revert o0; decide)) | exact fr_fil hI22 (by omega) | exact fr_cpy hI22 (by omega)).trans F
      exact (ih _ _ h).trans F
set_option maxRecDepth 20000 in
set_option maxHeartbeats 4000000 in
theorem fl_Mod_keep_92 {n : Nat} {b : Nat} {r : IM} (o0 : b < 102 ∨ 102 + 39 ≤ b)  : ∀ (f : Nat) (x1 : Int32) (I : IM), l_Mod_keep_92 n  f x1 I = some r → r b = I b
  | 0, _, _, h => by cases h
  | f + 1, x1, I, h => by
    have ih := fl_Mod_keep_92 (b := b) (r := r) (n := n)   o0 f
    rw [l_Mod_keep_92] at h
    have F : I b = I b := rfl
    refine em_t (c := (I MO 18 : Int32) ≤ x1) (fun q11 => ?_) (fun q11 => ?_)
    · replace h := ite_t h q11
      exact (fl_Mod_keep_164 o0  _ _ _ h).trans F
    · replace h := ite_f h q11
      obtain ⟨c12, h⟩ := chk_e h
      obtain ⟨c13, h⟩ := chk_e h
      obtain ⟨I14, hI14, h⟩ := lt_x h
      replace F := (show I14 b = _ from by first | exact fr_up hI14 (by first | omega | (intro e; subst e; revert o0; decide)) | exact fr_fil hI14 (by omega) | exact fr_cpy hI14 (by omega)).trans F
      obtain ⟨I15, hI15, h⟩ := lt_x h
      replace F := (show I15 b = _ from by first | exact fr_up hI15 (by first | omega | (intro e; subst e; revert o0; decide)) | exact fr_fil hI15 (by omega) | exact fr_cpy hI15 (by omega)).trans F
      obtain ⟨I16, hI16, h⟩ := lt_x h
      replace F := (show I16 b = _ from by first | exact fr_up hI16 (by first | omega | (intro e; subst e; revert o0; decide)) | exact fr_fil hI16 (by omega) | exact fr_cpy hI16 (by omega)).trans F
      exact (ih _ _ h).trans F
set_option maxRecDepth 20000 in
set_option maxHeartbeats 4000000 in
theorem fl_Mod_keep_7 {n : Nat} {b : Nat} {r : IM} (o0 : b < 102 ∨ 102 + 39 ≤ b)  : ∀ (f : Nat) (x1 : Int32) (I : IM), l_Mod_keep_7 n  f x1 I = some r → r b = I b
  | 0, _, _, h => by cases h
  | f + 1, x1, I, h => by
    have ih := fl_Mod_keep_7 (b := b) (r := r) (n := n)   o0 f
    rw [l_Mod_keep_7] at h
    have F : I b = I b := rfl
    refine em_t (c := (I MO 15 : Int32) ≤ x1) (fun q2 => ?_) (fun q2 => ?_)
    · replace h := ite_t h q2
      exact (fl_Mod_keep_92 o0  _ _ _ h).trans F
    · replace h := ite_f h q2
      obtain ⟨c3, h⟩ := chk_e h
      obtain ⟨c4, h⟩ := chk_e h
      obtain ⟨I5, hI5, h⟩ := lt_x h
      replace F := (show I5 b = _ from by first | exact fr_up hI5 (by first | omega | (intro e; subst e; revert o0; decide)) | exact fr_fil hI5 (by omega) | exact fr_cpy hI5 (by omega)).trans F
      refine em_t (c := (I5 A_code0 x1.toNatClampNeg : Int32) = (303 : Int32)) (fun q6 => ?_) (fun q6 => ?_)
      · replace h := ite_t h q6
        exact (fb_Mod_keep_64 o0 ih h).trans F
      · replace h := ite_f h q6
        refine em_f (c := (I5 A_code0 x1.toNatClampNeg : Int32) = (302 : Int32)) (fun q7 => ?_) (fun q7 => ?_)
        · replace h := ite_f h q7
          exact (fb_Mod_keep_83 o0 ih h).trans F
        · replace h := ite_t h q7
          exact (fb_Mod_keep_64 o0 ih h).trans F
set_option maxRecDepth 20000 in
set_option maxHeartbeats 4000000 in
theorem fr_Mod_keep {n : Nat} {I : IM} {b : Nat} {r : IM}  (h : f_Mod_keep n I = some r) (o0 : b < 102 ∨ 102 + 39 ≤ b) : r b = I b := by
  unfold f_Mod_keep at h
  have F : I b = I b := rfl
  obtain ⟨I1, hI1, h⟩ := lt_x h
  replace F := (show I1 b = _ from by first | exact fr_up hI1 (by first | omega | (intro e; subst e; revert o0; decide)) | exact fr_fil hI1 (by omega) | exact fr_cpy hI1 (by omega)).trans F
  exact (fl_Mod_keep_7 o0  _ _ _ h).trans F
set_option maxRecDepth 20000 in
set_option maxHeartbeats 4000000 in
theorem fb_Mod_setCase_67 {n : Nat} {b : Nat} {r : IM} (o0 : b < 102 ∨ 102 + 39 ≤ b) {H7 : Int32 → Int32 → Int32 → Int32 → IM → Option (IM)} (hH7 : ∀ (x2 : Int32) (x3 : Int32) (x4 : Int32) (x5 : Int32) (I : IM), H7 x2 x3 x4 x5 I = some r → r b = I b) {x2 : Int32} {x3 : Int32} {x5 : Int32} {y0 : Int32} {I : IM} (h : b_Mod_setCase_67 n H7 x2 x3 x5 y0 I = some r) : r b = I b := by
  unfold b_Mod_setCase_67 at h
  have F : I b = I b := rfl
  exact (hH7 _ _ _ _ _ h).trans F
set_option maxRecDepth 20000 in
set_option maxHeartbeats 4000000 in
theorem fb_Mod_setCase_50 {n : Nat} {b : Nat} {r : IM} (o0 : b < 102 ∨ 102 + 39 ≤ b) {H7 : Int32 → Int32 → Int32 → Int32 → IM → Option (IM)} (hH7 : ∀ (x2 : Int32) (x3 : Int32) (x4 : Int32) (x5 : Int32) (I : IM), H7 x2 x3 x4 x5 I = some r → r b = I b) {x2 : Int32} {x3 : Int32} {x4 : Int32} {x5 : Int32} {x6 : Int32} {y2 : Int32} {y1 : Int32} {I : IM} (h : b_Mod_setCase_50 n H7 x2 x3 x4 x5 x6 y2 y1 I = some r) : r b = I b := by
  unfold b_Mod_setCase_50 at h
  have F : I b = I b := rfl
  obtain ⟨c5, h⟩ := chk_e h
  obtain ⟨I6, hI6, h⟩ := lt_x h
  replace F := (show I6 b = _ from by first | exact fr_up hI6 (by first | omega | (intro e; subst e; revert o0; decide)) | exact fr_fil hI6 (by omega) | exact fr_cpy hI6 (by omega)).trans F
  refine em_t (c := x6 = 0) (fun q7 => ?_) (fun q7 => ?_)
  · replace h := ite_t h q7
    exact (fb_Mod_setCase_67 o0 hH7 h).trans F
  · replace h := ite_f h q7
    obtain ⟨c8, h⟩ := chk_e h
    exact (fb_Mod_setCase_67 o0 hH7 h).trans F
set_option maxRecDepth 20000 in
set_option maxHeartbeats 4000000 in
theorem fl_Mod_setCase_7 {n : Nat} {b : Nat} {r : IM} (o0 : b < 102 ∨ 102 + 39 ≤ b)  : ∀ (f : Nat) (x2 : Int32) (x3 : Int32) (x4 : Int32) (x5 : Int32) (I : IM), l_Mod_setCase_7 n  f x2 x3 x4 x5 I = some r → r b = I b
  | 0, _, _, _, _, _, h => by cases h
  | f + 1, x2, x3, x4, x5, I, h => by
    have ih := fl_Mod_setCase_7 (b := b) (r := r) (n := n)   o0 f
    rw [l_Mod_setCase_7] at h
    have F : I b = I b := rfl
    refine em_t (c := x5 < 0) (fun q1 => ?_) (fun q1 => ?_)
    · replace h := ite_t h q1
      cases h
      exact F
    · replace h := ite_f h q1
      refine em_t (c := (if (((x2 : Int32) >>> ((x5 : Int32) &&& 31)) &&& 1 : Int32) = (1 : Int32) then 1 else 0 : Int32) = 0) (fun q3 => ?_) (fun q3 => ?_)
      · replace h := ite_t h q3
        exact (fb_Mod_setCase_50 o0 ih h).trans F
      · replace h := ite_f h q3
        obtain ⟨c4, h⟩ := chk_e h
        exact (fb_Mod_setCase_50 o0 ih h).trans F
set_option maxRecDepth 20000 in
set_option maxHeartbeats 4000000 in
theorem fr_Mod_setCase {n : Nat} {x1 : Int32} {x2 : Int32} {x3 : Int32} {I : IM} {b : Nat} {r : IM}  (h : f_Mod_setCase n x1 x2 x3 I = some r) (o0 : b < 102 ∨ 102 + 39 ≤ b) : r b = I b := by
  unfold f_Mod_setCase at h
  have F : I b = I b := rfl
  exact (fl_Mod_setCase_7 o0  _ _ _ _ _ _ h).trans F
set_option maxRecDepth 20000 in
set_option maxHeartbeats 4000000 in
theorem fr_Mod_answerUnlike {n : Nat} {x1 : Int32} {x2 : Int32} {I : IM} {b : Nat} {r : Int32 × IM}  (h : f_Mod_answerUnlike n x1 x2 I = some r) (o0 : b < 102 ∨ 102 + 39 ≤ b) : r.2 b = I b := by
  unfold f_Mod_answerUnlike at h
  have F : I b = I b := rfl
  obtain ⟨I1, hI1, h⟩ := lt_x h
  replace F := (show I1 b = _ from by first | exact fr_up hI1 (by first | omega | (intro e; subst e; revert o0; decide)) | exact fr_fil hI1 (by omega) | exact fr_cpy hI1 (by omega)).trans F
  obtain ⟨v2, e3, h⟩ := bnd_e h
  replace F := (fr_Mod_rule e3 (by first | omega | exact outA o0 (by decide))).trans F
  obtain ⟨v5, e6, h⟩ := bnd_e h
  replace F := (fr_Mod_rule e6 (by first | omega | exact outA o0 (by decide))).trans F
  obtain ⟨I7, hI7, h⟩ := lt_x h
  replace F := (show I7 b = _ from by first | exact fr_up hI7 (by first | omega | (intro e; subst e; revert o0; decide)) | exact fr_fil hI7 (by omega) | exact fr_cpy hI7 (by omega)).trans F
  cases h
  exact F
set_option maxRecDepth 20000 in
set_option maxHeartbeats 4000000 in
theorem fl_Mod_differ_250 {n : Nat} {b : Nat} {r : Int32 × IM} (o0 : b < 102 ∨ 102 + 39 ≤ b)  : ∀ (f : Nat) (x9 : Int32) (x10 : Int32) (I : IM), l_Mod_differ_250 n  f x9 x10 I = some r → r.2 b = I b
  | 0, _, _, _, h => by cases h
  | f + 1, x9, x10, I, h => by
    have ih := fl_Mod_differ_250 (b := b) (r := r) (n := n)   o0 f
    rw [l_Mod_differ_250] at h
    have F : I b = I b := rfl
    refine em_t (c := (15 : Int32) ≤ x10) (fun q37 => ?_) (fun q37 => ?_)
    · replace h := ite_t h q37
      cases h
      exact F
    · replace h := ite_f h q37
      obtain ⟨c38, h⟩ := chk_e h
      obtain ⟨I39, hI39, h⟩ := lt_x h
      replace F := (show I39 b = _ from by first | exact fr_up hI39 (by first | omega | (intro e; subst e; revert o0; decide)) | exact fr_fil hI39 (by omega) | exact fr_cpy hI39 (by omega)).trans F
      exact (ih _ _ _ h).trans F
set_option maxRecDepth 20000 in
set_option maxHeartbeats 4000000 in
theorem fl_Mod_differ_215 {n : Nat} {b : Nat} {r : Int32 × IM} (o0 : b < 102 ∨ 102 + 39 ≤ b)  : ∀ (f : Nat) (x2 : Int32) (x4 : Int32) (x5 : Int32) (x7 : Int32) (x8 : Int32) (x9 : Int32) (I : IM), l_Mod_differ_215 n  f x2 x4 x5 x7 x8 x9 I = some r → r.2 b = I b
  | 0, _, _, _, _, _, _, _, h => by cases h
  | f + 1, x2, x4, x5, x7, x8, x9, I, h => by
    have ih := fl_Mod_differ_215 (b := b) (r := r) (n := n)   o0 f
    rw [l_Mod_differ_215] at h
    have F : I b = I b := rfl
    refine em_t (c := x8 ≤ x9) (fun q30 => ?_) (fun q30 => ?_)
    · replace h := ite_t h q30
      cases h
      exact F
    · replace h := ite_f h q30
      obtain ⟨v31, e32, h⟩ := bnd_e h
      replace F := (fr_Mod_setCase e32 (by first | omega | exact outA o0 (by decide))).trans F
      obtain ⟨v33, e34, h⟩ := bnd_e h
      replace F := (fr_Mod_answerUnlike e34 (by first | omega | exact outA o0 (by decide))).trans F
      refine em_t (c := (v33.1 : Int32) = 0) (fun q35 => ?_) (fun q35 => ?_)
      · replace h := ite_t h q35
        exact (ih _ _ _ _ _ _ _ h).trans F
      · replace h := ite_f h q35
        obtain ⟨I36, hI36, h⟩ := lt_x h
        replace F := (show I36 b = _ from by first | exact fr_up hI36 (by first | omega | (intro e; subst e; revert o0; decide)) | exact fr_fil hI36 (by omega) | exact fr_cpy hI36 (by omega)).trans F
        exact (fl_Mod_differ_250 o0  _ _ _ _ h).trans F
set_option maxRecDepth 20000 in
set_option maxHeartbeats 4000000 in
theorem fb_Mod_differ_192 {n : Nat} {b : Nat} {r : Int32 × IM} (o0 : b < 102 ∨ 102 + 39 ≤ b)  {x2 : Int32} {x4 : Int32} {x5 : Int32} {x7 : Int32} {x8 : Int32} {I : IM} (h : b_Mod_differ_192 n  x2 x4 x5 x7 x8 I = some r) : r.2 b = I b := by
  unfold b_Mod_differ_192 at h
  have F : I b = I b := rfl
  refine em_t (c := x8 ≤ (4096 : Int32)) (fun q27 => ?_) (fun q27 => ?_)
  · replace h := ite_t h q27
    obtain ⟨I28, hI28, h⟩ := lt_x h
    replace F := (show I28 b = _ from by first | exact fr_up hI28 (by first | omega | (intro e; subst e; revert o0; decide)) | exact fr_fil hI28 (by omega) | exact fr_cpy hI28 (by omega)).trans F
    exact (fl_Mod_differ_215 o0  _ _ _ _ _ _ _ _ h).trans F
  · replace h := ite_f h q27
    obtain ⟨I29, hI29, h⟩ := lt_x h
    replace F := (show I29 b = _ from by first | exact fr_up hI29 (by first | omega | (intro e; subst e; revert o0; decide)) | exact fr_fil hI29 (by omega) | exact fr_cpy hI29 (by omega)).trans F
    cases h
    exact F
set_option maxRecDepth 20000 in
set_option maxHeartbeats 4000000 in
theorem fl_Mod_differ_147 {n : Nat} {b : Nat} {r : Int32 × IM} (o0 : b < 102 ∨ 102 + 39 ≤ b)  : ∀ (f : Nat) (x2 : Int32) (x4 : Int32) (x5 : Int32) (x7 : Int32) (x8 : Int32) (x9 : Int32) (I : IM), l_Mod_differ_147 n  f x2 x4 x5 x7 x8 x9 I = some r → r.2 b = I b
  | 0, _, _, _, _, _, _, _, h => by cases h
  | f + 1, x2, x4, x5, x7, x8, x9, I, h => by
    have ih := fl_Mod_differ_147 (b := b) (r := r) (n := n)   o0 f
    rw [l_Mod_differ_147] at h
    have F : I b = I b := rfl
    refine em_t (c := (15 : Int32) ≤ x9) (fun q24 => ?_) (fun q24 => ?_)
    · replace h := ite_t h q24
      exact (fb_Mod_differ_192 o0  h).trans F
    · replace h := ite_f h q24
      refine em_t (c := (4096 : Int32) < x8) (fun q25 => ?_) (fun q25 => ?_)
      · replace h := ite_t h q25
        exact (fb_Mod_differ_192 o0  h).trans F
      · replace h := ite_f h q25
        exact (ih _ _ _ _ _ _ _ h).trans F
set_option maxRecDepth 20000 in
set_option maxHeartbeats 4000000 in
theorem fb_Mod_differ_97 {n : Nat} {b : Nat} {r : Int32 × IM} (o0 : b < 102 ∨ 102 + 39 ≤ b)  {x2 : Int32} {x3 : Int32} {x4 : Int32} {x5 : Int32} {y0 : Int32} {I : IM} (h : b_Mod_differ_97 n  x2 x3 x4 x5 y0 I = some r) : r.2 b = I b := by
  unfold b_Mod_differ_97 at h
  have F : I b = I b := rfl
  obtain ⟨v43, e44, h⟩ := bnd_e h
  replace F := (fr_Mod_refuse e44 (by first | omega | exact outA o0 (by decide))).trans F
  refine em_t (c := (v43.1 : Int32) = 0) (fun q45 => ?_) (fun q45 => ?_)
  · replace h := ite_t h q45
    obtain ⟨v46, e47, h⟩ := bnd_e h
    exact (fl_Mod_differ_147 o0  _ _ _ _ _ _ _ _ h).trans F
  · replace h := ite_f h q45
    cases h
    exact F
set_option maxRecDepth 20000 in
set_option maxHeartbeats 4000000 in
theorem fb_Mod_differ_96 {n : Nat} {b : Nat} {r : Int32 × IM} (o0 : b < 102 ∨ 102 + 39 ≤ b)  {x2 : Int32} {x3 : Int32} {x4 : Int32} {x5 : Int32} {I : IM} (h : b_Mod_differ_96 n  x2 x3 x4 x5 I = some r) : r.2 b = I b := by
  unfold b_Mod_differ_96 at h
  have F : I b = I b := rfl
  exact (fb_Mod_differ_97 o0  h).trans F
set_option maxRecDepth 20000 in
set_option maxHeartbeats 4000000 in
theorem fb_Mod_differ_59 {n : Nat} {b : Nat} {r : Int32 × IM} (o0 : b < 102 ∨ 102 + 39 ≤ b)  {x2 : Int32} {x3 : Int32} {x4 : Int32} {y0 : Int32} {I : IM} (h : b_Mod_differ_59 n  x2 x3 x4 y0 I = some r) : r.2 b = I b := by
  unfold b_Mod_differ_59 at h
  have F : I b = I b := rfl
  refine em_t (c := x4 < 0) (fun q11 => ?_) (fun q11 => ?_)
  · replace h := ite_t h q11
    exact (fb_Mod_differ_96 o0  h).trans F
  · replace h := ite_f h q11
    refine em_t (c := y0 < 0) (fun q12 => ?_) (fun q12 => ?_)
    · replace h := ite_t h q12
      exact (fb_Mod_differ_96 o0  h).trans F
    · replace h := ite_f h q12
      obtain ⟨c13, h⟩ := chk_e h
      obtain ⟨c14, h⟩ := chk_e h
      obtain ⟨v19, e20, h⟩ := bnd_e h
      replace F := (fr_Mod_refuse e20 (by first | omega | exact outA o0 (by decide))).trans F
      refine em_t (c := (v19.1 : Int32) = 0) (fun q21 => ?_) (fun q21 => ?_)
      · replace h := ite_t h q21
        obtain ⟨v22, e23, h⟩ := bnd_e h
        exact (fl_Mod_differ_147 o0  _ _ _ _ _ _ _ _ h).trans F
      · replace h := ite_f h q21
        cases h
        exact F
set_option maxRecDepth 20000 in
set_option maxHeartbeats 4000000 in
theorem fb_Mod_differ_40 {n : Nat} {b : Nat} {r : Int32 × IM} (o0 : b < 102 ∨ 102 + 39 ≤ b)  {x1 : Int32} {x2 : Int32} {x3 : Int32} {y0 : Int32} {I : IM} (h : b_Mod_differ_40 n  x1 x2 x3 y0 I = some r) : r.2 b = I b := by
  unfold b_Mod_differ_40 at h
  have F : I b = I b := rfl
  refine em_t (c := x3 = 0) (fun q9 => ?_) (fun q9 => ?_)
  · replace h := ite_t h q9
    exact (fb_Mod_differ_59 o0  h).trans F
  · replace h := ite_f h q9
    obtain ⟨c10, h⟩ := chk_e h
    exact (fb_Mod_differ_59 o0  h).trans F
set_option maxRecDepth 20000 in
set_option maxHeartbeats 4000000 in
theorem fb_Mod_differ_25 {n : Nat} {b : Nat} {r : Int32 × IM} (o0 : b < 102 ∨ 102 + 39 ≤ b)  {x1 : Int32} {x2 : Int32} {y0 : Int32} {I : IM} (h : b_Mod_differ_25 n  x1 x2 y0 I = some r) : r.2 b = I b := by
  unfold b_Mod_differ_25 at h
  have F : I b = I b := rfl
  refine em_t (c := y0 = 0) (fun q48 => ?_) (fun q48 => ?_)
  · replace h := ite_t h q48
    exact (fb_Mod_differ_40 o0  h).trans F
  · replace h := ite_f h q48
    obtain ⟨c49, h⟩ := chk_e h
    exact (fb_Mod_differ_40 o0  h).trans F
set_option maxRecDepth 20000 in
set_option maxHeartbeats 4000000 in
theorem fb_Mod_differ_24 {n : Nat} {b : Nat} {r : Int32 × IM} (o0 : b < 102 ∨ 102 + 39 ≤ b)  {x1 : Int32} {x2 : Int32} {I : IM} (h : b_Mod_differ_24 n  x1 x2 I = some r) : r.2 b = I b := by
  unfold b_Mod_differ_24 at h
  have F : I b = I b := rfl
  exact (fb_Mod_differ_25 o0  h).trans F
set_option maxRecDepth 20000 in
set_option maxHeartbeats 4000000 in
theorem fr_Mod_differ {n : Nat} {x1 : Int32} {x2 : Int32} {I : IM} {b : Nat} {r : Int32 × IM}  (h : f_Mod_differ n x1 x2 I = some r) (o0 : b < 102 ∨ 102 + 39 ≤ b) : r.2 b = I b := by
  unfold f_Mod_differ at h
  have F : I b = I b := rfl
  obtain ⟨v1, e2, h⟩ := bnd_e h
  refine em_t (c := v1 = 0) (fun q3 => ?_) (fun q3 => ?_)
  · replace h := ite_t h q3
    exact (fb_Mod_differ_24 o0  h).trans F
  · replace h := ite_f h q3
    obtain ⟨v4, e5, h⟩ := bnd_e h
    refine em_t (c := (if v4 = 0 then 0 else 1 : Int32) = 0) (fun q7 => ?_) (fun q7 => ?_)
    · replace h := ite_t h q7
      exact (fb_Mod_differ_40 o0  h).trans F
    · replace h := ite_f h q7
      obtain ⟨c8, h⟩ := chk_e h
      exact (fb_Mod_differ_40 o0  h).trans F
set_option maxRecDepth 20000 in
set_option maxHeartbeats 4000000 in
theorem fr_Mod_witness {x1 : Int32} {I : IM} {b : Nat} {r : Int32 × IM}  (h : f_Mod_witness x1 I = some r) (o0 : b < 102 ∨ 102 + 39 ≤ b) : r.2 b = I b := by
  unfold f_Mod_witness at h
  have F : I b = I b := rfl
  obtain ⟨v1, e2, h⟩ := bnd_e h
  obtain ⟨v6, e7, h⟩ := bnd_e h
  replace F := (fr_Mod_refuse e7 (by first | omega | exact outA o0 (by decide))).trans F
  refine em_t (c := (v6.1 : Int32) = 0) (fun q8 => ?_) (fun q8 => ?_)
  · replace h := ite_t h q8
    obtain ⟨c9, h⟩ := chk_e h
    cases h
    exact F
  · replace h := ite_f h q8
    cases h
    exact F
set_option maxRecDepth 20000 in
set_option maxHeartbeats 4000000 in
theorem fb_Mod_moveRow_50 {n : Nat} {x1 : Nat} {b : Nat} {r : IM} (o0 : b < 102 ∨ 102 + 39 ≤ b) (o1 : b < x1 ∨ x1 + 1 ≤ b) {H3 : Int32 → Int32 → Int32 → Int32 → IM → Option (IM)} (hH3 : ∀ (x2 : Int32) (x3 : Int32) (x4 : Int32) (x5 : Int32) (I : IM), H3 x2 x3 x4 x5 I = some r → r b = I b) {x2 : Int32} {x3 : Int32} {x4 : Int32} {x5 : Int32} {y2 : Int32} {y1 : Int32} {I : IM} (h : b_Mod_moveRow_50 n x1 H3 x2 x3 x4 x5 y2 y1 I = some r) : r b = I b := by
  unfold b_Mod_moveRow_50 at h
  have F : I b = I b := rfl
  obtain ⟨c6, h⟩ := chk_e h
  obtain ⟨I7, hI7, h⟩ := lt_x h
  replace F := (show I7 b = _ from by first | exact fr_up hI7 (by first | omega | (intro e; subst e; revert o0; decide)) | exact fr_fil hI7 (by omega) | exact fr_cpy hI7 (by omega)).trans F
  exact (hH3 _ _ _ _ _ h).trans F
set_option maxRecDepth 20000 in
set_option maxHeartbeats 4000000 in
theorem fl_Mod_moveRow_3 {n : Nat} {x1 : Nat} {b : Nat} {r : IM} (o0 : b < 102 ∨ 102 + 39 ≤ b) (o1 : b < x1 ∨ x1 + 1 ≤ b)  : ∀ (f : Nat) (x2 : Int32) (x3 : Int32) (x4 : Int32) (x5 : Int32) (I : IM), l_Mod_moveRow_3 n x1  f x2 x3 x4 x5 I = some r → r b = I b
  | 0, _, _, _, _, _, h => by cases h
  | f + 1, x2, x3, x4, x5, I, h => by
    have ih := fl_Mod_moveRow_3 (b := b) (r := r) (n := n) (x1 := x1)  o0 o1 f
    rw [l_Mod_moveRow_3] at h
    have F : I b = I b := rfl
    refine em_t (c := x2 ≤ x5) (fun q1 => ?_) (fun q1 => ?_)
    · replace h := ite_t h q1
      cases h
      exact F
    · replace h := ite_f h q1
      obtain ⟨c2, h⟩ := chk_e h
      obtain ⟨c3, h⟩ := chk_e h
      obtain ⟨I4, hI4, h⟩ := lt_x h
      replace F := (show I4 b = _ from by first | exact fr_up hI4 (by first | omega | (intro e; subst e; revert o0; decide)) | exact fr_fil hI4 (by omega) | exact fr_cpy hI4 (by omega)).trans F
      refine em_t (c := x4 = 0) (fun q5 => ?_) (fun q5 => ?_)
      · replace h := ite_t h q5
        exact (fb_Mod_moveRow_50 o0 o1 ih h).trans F
      · replace h := ite_f h q5
        exact (fb_Mod_moveRow_50 o0 o1 ih h).trans F
set_option maxRecDepth 20000 in
set_option maxHeartbeats 4000000 in
theorem fr_Mod_moveRow {n : Nat} {x1 : Nat} {x2 : Int32} {x3 : Int32} {x4 : Int32} {I : IM} {b : Nat} {r : IM}  (h : f_Mod_moveRow n x1 x2 x3 x4 I = some r) (o0 : b < 102 ∨ 102 + 39 ≤ b) (o1 : b < x1 ∨ x1 + 1 ≤ b) : r b = I b := by
  unfold f_Mod_moveRow at h
  have F : I b = I b := rfl
  exact (fl_Mod_moveRow_3 o0 o1  _ _ _ _ _ _ h).trans F
set_option maxRecDepth 20000 in
set_option maxHeartbeats 4000000 in
theorem fr_Mod_moveAll {n : Nat} {x1 : Int32} {I : IM} {b : Nat} {r : IM}  (h : f_Mod_moveAll n x1 I = some r) (o0 : b < 102 ∨ 102 + 39 ≤ b) : r b = I b := by
  unfold f_Mod_moveAll at h
  have F : I b = I b := rfl
  obtain ⟨I1, hI1, h⟩ := lt_x h
  replace F := (show I1 b = _ from by first | exact fr_up hI1 (by first | omega | (intro e; subst e; revert o0; decide)) | exact fr_fil hI1 (by omega) | exact fr_cpy hI1 (by omega)).trans F
  obtain ⟨I2, hI2, h⟩ := lt_x h
  replace F := (show I2 b = _ from by first | exact fr_up hI2 (by first | omega | (intro e; subst e; revert o0; decide)) | exact fr_fil hI2 (by omega) | exact fr_cpy hI2 (by omega)).trans F
  obtain ⟨I3, hI3, h⟩ := lt_x h
  replace F := (show I3 b = _ from by first | exact fr_up hI3 (by first | omega | (intro e; subst e; revert o0; decide)) | exact fr_fil hI3 (by omega) | exact fr_cpy hI3 (by omega)).trans F
  obtain ⟨I4, hI4, h⟩ := lt_x h
  replace F := (show I4 b = _ from by first | exact fr_up hI4 (by first | omega | (intro e; subst e; revert o0; decide)) | exact fr_fil hI4 (by omega) | exact fr_cpy hI4 (by omega)).trans F
  obtain ⟨I5, hI5, h⟩ := lt_x h
  replace F := (show I5 b = _ from by first | exact fr_up hI5 (by first | omega | (intro e; subst e; revert o0; decide)) | exact fr_fil hI5 (by omega) | exact fr_cpy hI5 (by omega)).trans F
  obtain ⟨I6, hI6, h⟩ := lt_x h
  replace F := (show I6 b = _ from by first | exact fr_up hI6 (by first | omega | (intro e; subst e; revert o0; decide)) | exact fr_fil hI6 (by omega) | exact fr_cpy hI6 (by omega)).trans F
  obtain ⟨I7, hI7, h⟩ := lt_x h
  replace F := (show I7 b = _ from by first | exact fr_up hI7 (by first | omega | (intro e; subst e; revert o0; decide)) | exact fr_fil hI7 (by omega) | exact fr_cpy hI7 (by omega)).trans F
  obtain ⟨I8, hI8, h⟩ := lt_x h
  replace F := (show I8 b = _ from by first | exact fr_up hI8 (by first | omega | (intro e; subst e; revert o0; decide)) | exact fr_fil hI8 (by omega) | exact fr_cpy hI8 (by omega)).trans F
  obtain ⟨I9, hI9, h⟩ := lt_x h
  replace F := (show I9 b = _ from by first | exact fr_up hI9 (by first | omega | (intro e; subst e; revert o0; decide)) | exact fr_fil hI9 (by omega) | exact fr_cpy hI9 (by omega)).trans F
  obtain ⟨I10, hI10, h⟩ := lt_x h
  replace F := (show I10 b = _ from by first | exact fr_up hI10 (by first | omega | (intro e; subst e; revert o0; decide)) | exact fr_fil hI10 (by omega) | exact fr_cpy hI10 (by omega)).trans F
  obtain ⟨I11, hI11, h⟩ := lt_x h
  replace F := (show I11 b = _ from by first | exact fr_up hI11 (by first | omega | (intro e; subst e; revert o0; decide)) | exact fr_fil hI11 (by omega) | exact fr_cpy hI11 (by omega)).trans F
  obtain ⟨I12, hI12, h⟩ := lt_x h
  replace F := (show I12 b = _ from by first | exact fr_up hI12 (by first | omega | (intro e; subst e; revert o0; decide)) | exact fr_fil hI12 (by omega) | exact fr_cpy hI12 (by omega)).trans F
  obtain ⟨I13, hI13, h⟩ := lt_x h
  replace F := (show I13 b = _ from by first | exact fr_up hI13 (by first | omega | (intro e; subst e; revert o0; decide)) | exact fr_fil hI13 (by omega) | exact fr_cpy hI13 (by omega)).trans F
  obtain ⟨I14, hI14, h⟩ := lt_x h
  replace F := (show I14 b = _ from by first | exact fr_up hI14 (by first | omega | (intro e; subst e; revert o0; decide)) | exact fr_fil hI14 (by omega) | exact fr_cpy hI14 (by omega)).trans F
  obtain ⟨I15, hI15, h⟩ := lt_x h
  replace F := (show I15 b = _ from by first | exact fr_up hI15 (by first | omega | (intro e; subst e; revert o0; decide)) | exact fr_fil hI15 (by omega) | exact fr_cpy hI15 (by omega)).trans F
  obtain ⟨I16, hI16, h⟩ := lt_x h
  replace F := (show I16 b = _ from by first | exact fr_up hI16 (by first | omega | (intro e; subst e; revert o0; decide)) | exact fr_fil hI16 (by omega) | exact fr_cpy hI16 (by omega)).trans F
  obtain ⟨v17, e18, h⟩ := bnd_e h
  replace F := (fr_Mod_moveRow e18 (by first | omega | exact outA o0 (by decide)) (by first | omega | exact outA o0 (by decide))).trans F
  obtain ⟨I19, hI19, h⟩ := lt_x h
  replace F := (show I19 b = _ from by first | exact fr_up hI19 (by first | omega | (intro e; subst e; revert o0; decide)) | exact fr_fil hI19 (by omega) | exact fr_cpy hI19 (by omega)).trans F
  obtain ⟨I20, hI20, h⟩ := lt_x h
  replace F := (show I20 b = _ from by first | exact fr_up hI20 (by first | omega | (intro e; subst e; revert o0; decide)) | exact fr_fil hI20 (by omega) | exact fr_cpy hI20 (by omega)).trans F
  obtain ⟨I21, hI21, h⟩ := lt_x h
  replace F := (show I21 b = _ from by first | exact fr_up hI21 (by first | omega | (intro e; subst e; revert o0; decide)) | exact fr_fil hI21 (by omega) | exact fr_cpy hI21 (by omega)).trans F
  obtain ⟨I22, hI22, h⟩ := lt_x h
  replace F := (show I22 b = _ from by first | exact fr_up hI22 (by first | omega | (intro e; subst e; revert o0; decide)) | exact fr_fil hI22 (by omega) | exact fr_cpy hI22 (by omega)).trans F
  obtain ⟨I23, hI23, h⟩ := lt_x h
  replace F := (show I23 b = _ from by first | exact fr_up hI23 (by first | omega | (intro e; subst e; revert o0; decide)) | exact fr_fil hI23 (by omega) | exact fr_cpy hI23 (by omega)).trans F
  obtain ⟨I24, hI24, h⟩ := lt_x h
  replace F := (show I24 b = _ from by first | exact fr_up hI24 (by first | omega | (intro e; subst e; revert o0; decide)) | exact fr_fil hI24 (by omega) | exact fr_cpy hI24 (by omega)).trans F
  obtain ⟨I25, hI25, h⟩ := lt_x h
  replace F := (show I25 b = _ from by first | exact fr_up hI25 (by first | omega | (intro e; subst e; revert o0; decide)) | exact fr_fil hI25 (by omega) | exact fr_cpy hI25 (by omega)).trans F
  obtain ⟨I26, hI26, h⟩ := lt_x h
  replace F := (show I26 b = _ from by first | exact fr_up hI26 (by first | omega | (intro e; subst e; revert o0; decide)) | exact fr_fil hI26 (by omega) | exact fr_cpy hI26 (by omega)).trans F
  obtain ⟨I27, hI27, h⟩ := lt_x h
  replace F := (show I27 b = _ from by first | exact fr_up hI27 (by first | omega | (intro e; subst e; revert o0; decide)) | exact fr_fil hI27 (by omega) | exact fr_cpy hI27 (by omega)).trans F
  obtain ⟨I28, hI28, h⟩ := lt_x h
  replace F := (show I28 b = _ from by first | exact fr_up hI28 (by first | omega | (intro e; subst e; revert o0; decide)) | exact fr_fil hI28 (by omega) | exact fr_cpy hI28 (by omega)).trans F
  obtain ⟨I29, hI29, h⟩ := lt_x h
  replace F := (show I29 b = _ from by first | exact fr_up hI29 (by first | omega | (intro e; subst e; revert o0; decide)) | exact fr_fil hI29 (by omega) | exact fr_cpy hI29 (by omega)).trans F
  obtain ⟨I30, hI30, h⟩ := lt_x h
  replace F := (show I30 b = _ from by first | exact fr_up hI30 (by first | omega | (intro e; subst e; revert o0; decide)) | exact fr_fil hI30 (by omega) | exact fr_cpy hI30 (by omega)).trans F
  obtain ⟨I31, hI31, h⟩ := lt_x h
  replace F := (show I31 b = _ from by first | exact fr_up hI31 (by first | omega | (intro e; subst e; revert o0; decide)) | exact fr_fil hI31 (by omega) | exact fr_cpy hI31 (by omega)).trans F
  obtain ⟨I32, hI32, h⟩ := lt_x h
  replace F := (show I32 b = _ from by first | exact fr_up hI32 (by first | omega | (intro e; subst e; revert o0; decide)) | exact fr_fil hI32 (by omega) | exact fr_cpy hI32 (by omega)).trans F
  obtain ⟨I33, hI33, h⟩ := lt_x h
  replace F := (show I33 b = _ from by first | exact fr_up hI33 (by first | omega | (intro e; subst e; revert o0; decide)) | exact fr_fil hI33 (by omega) | exact fr_cpy hI33 (by omega)).trans F
  obtain ⟨I34, hI34, h⟩ := lt_x h
  replace F := (show I34 b = _ from by first | exact fr_up hI34 (by first | omega | (intro e; subst e; revert o0; decide)) | exact fr_fil hI34 (by omega) | exact fr_cpy hI34 (by omega)).trans F
  obtain ⟨v35, e36, h⟩ := bnd_e h
  replace F := (fr_Mod_moveRow e36 (by first | omega | exact outA o0 (by decide)) (by first | omega | exact outA o0 (by decide))).trans F
  obtain ⟨v37, e38, h⟩ := bnd_e h
  replace F := (fr_Mod_moveRow e38 (by first | omega | exact outA o0 (by decide)) (by first | omega | exact outA o0 (by decide))).trans F
  obtain ⟨v39, e40, h⟩ := bnd_e h
  replace F := (fr_Mod_moveRow e40 (by first | omega | exact outA o0 (by decide)) (by first | omega | exact outA o0 (by decide))).trans F
  obtain ⟨v41, e42, h⟩ := bnd_e h
  replace F := (fr_Mod_moveRow e42 (by first | omega | exact outA o0 (by decide)) (by first | omega | exact outA o0 (by decide))).trans F
  obtain ⟨v43, e44, h⟩ := bnd_e h
  replace F := (fr_Mod_moveRow e44 (by first | omega | exact outA o0 (by decide)) (by first | omega | exact outA o0 (by decide))).trans F
  obtain ⟨v45, e46, h⟩ := bnd_e h
  replace F := (fr_Mod_moveRow e46 (by first | omega | exact outA o0 (by decide)) (by first | omega | exact outA o0 (by decide))).trans F
  obtain ⟨v47, e48, h⟩ := bnd_e h
  replace F := (fr_Mod_moveRow e48 (by first | omega | exact outA o0 (by decide)) (by first | omega | exact outA o0 (by decide))).trans F
  obtain ⟨v49, e50, h⟩ := bnd_e h
  replace F := (fr_Mod_moveRow e50 (by first | omega | exact outA o0 (by decide)) (by first | omega | exact outA o0 (by decide))).trans F
  obtain ⟨v51, e52, h⟩ := bnd_e h
  replace F := (fr_Mod_moveRow e52 (by first | omega | exact outA o0 (by decide)) (by first | omega | exact outA o0 (by decide))).trans F
  obtain ⟨v53, e54, h⟩ := bnd_e h
  replace F := (fr_Mod_moveRow e54 (by first | omega | exact outA o0 (by decide)) (by first | omega | exact outA o0 (by decide))).trans F
  obtain ⟨v55, e56, h⟩ := bnd_e h
  replace F := (fr_Mod_moveRow e56 (by first | omega | exact outA o0 (by decide)) (by first | omega | exact outA o0 (by decide))).trans F
  obtain ⟨v57, e58, h⟩ := bnd_e h
  replace F := (fr_Mod_moveRow e58 (by first | omega | exact outA o0 (by decide)) (by first | omega | exact outA o0 (by decide))).trans F
  obtain ⟨v59, e60, h⟩ := bnd_e h
  replace F := (fr_Mod_moveRow e60 (by first | omega | exact outA o0 (by decide)) (by first | omega | exact outA o0 (by decide))).trans F
  obtain ⟨v61, e62, h⟩ := bnd_e h
  replace F := (fr_Mod_moveRow e62 (by first | omega | exact outA o0 (by decide)) (by first | omega | exact outA o0 (by decide))).trans F
  obtain ⟨v63, e64, h⟩ := bnd_e h
  replace F := (fr_Mod_moveRow e64 (by first | omega | exact outA o0 (by decide)) (by first | omega | exact outA o0 (by decide))).trans F
  obtain ⟨v65, e66, h⟩ := bnd_e h
  replace F := (fr_Mod_moveRow e66 (by first | omega | exact outA o0 (by decide)) (by first | omega | exact outA o0 (by decide))).trans F
  cases h
  exact F
set_option maxRecDepth 20000 in
set_option maxHeartbeats 4000000 in
theorem fr_Mod_twin {n : Nat} {I : IM} {b : Nat} {r : IM}  (h : f_Mod_twin n I = some r) (o0 : b < 102 ∨ 102 + 39 ≤ b) : r b = I b := by
  unfold f_Mod_twin at h
  have F : I b = I b := rfl
  obtain ⟨I1, hI1, h⟩ := lt_x h
  replace F := (show I1 b = _ from by first | exact fr_up hI1 (by first | omega | (intro e; subst e; revert o0; decide)) | exact fr_fil hI1 (by omega) | exact fr_cpy hI1 (by omega)).trans F
  obtain ⟨v2, e3, h⟩ := bnd_e h
  replace F := (fr_Mod_moveAll e3 (by first | omega | exact outA o0 (by decide))).trans F
  cases h
  exact F
set_option maxRecDepth 20000 in
set_option maxHeartbeats 4000000 in
theorem fr_Mod_swap {n : Nat} {I : IM} {b : Nat} {r : IM}  (h : f_Mod_swap n I = some r) (o0 : b < 102 ∨ 102 + 39 ≤ b) : r b = I b := by
  unfold f_Mod_swap at h
  have F : I b = I b := rfl
  obtain ⟨I1, hI1, h⟩ := lt_x h
  replace F := (show I1 b = _ from by first | exact fr_up hI1 (by first | omega | (intro e; subst e; revert o0; decide)) | exact fr_fil hI1 (by omega) | exact fr_cpy hI1 (by omega)).trans F
  obtain ⟨v2, e3, h⟩ := bnd_e h
  replace F := (fr_Mod_moveAll e3 (by first | omega | exact outA o0 (by decide))).trans F
  cases h
  exact F
set_option maxRecDepth 20000 in
set_option maxHeartbeats 4000000 in
theorem fb_Mod_unlike_169 {n : Nat} {b : Nat} {r : Int32 × IM} (o0 : b < 102 ∨ 102 + 39 ≤ b)  {y0 : Int32} {I : IM} (h : b_Mod_unlike_169 n  y0 I = some r) : r.2 b = I b := by
  unfold b_Mod_unlike_169 at h
  have F : I b = I b := rfl
  cases h
  exact F
set_option maxRecDepth 20000 in
set_option maxHeartbeats 4000000 in
theorem fb_Mod_unlike_163 {n : Nat} {b : Nat} {r : Int32 × IM} (o0 : b < 102 ∨ 102 + 39 ≤ b)   {I : IM} (h : b_Mod_unlike_163 n   I = some r) : r.2 b = I b := by
  unfold b_Mod_unlike_163 at h
  have F : I b = I b := rfl
  exact (fb_Mod_unlike_169 o0  h).trans F
set_option maxRecDepth 20000 in
set_option maxHeartbeats 4000000 in
theorem fb_Mod_unlike_168 {n : Nat} {b : Nat} {r : Int32 × IM} (o0 : b < 102 ∨ 102 + 39 ≤ b)  {x2 : Int32} {I : IM} (h : b_Mod_unlike_168 n  x2 I = some r) : r.2 b = I b := by
  unfold b_Mod_unlike_168 at h
  have F : I b = I b := rfl
  exact (fb_Mod_unlike_169 o0  h).trans F
set_option maxRecDepth 20000 in
set_option maxHeartbeats 4000000 in
theorem fb_Mod_unlike_211 {n : Nat} {b : Nat} {r : Int32 × IM} (o0 : b < 102 ∨ 102 + 39 ≤ b)  {x2 : Int32} {y0 : Int32} {I : IM} (h : b_Mod_unlike_211 n  x2 y0 I = some r) : r.2 b = I b := by
  unfold b_Mod_unlike_211 at h
  have F : I b = I b := rfl
  obtain ⟨v30, e31, h⟩ := bnd_e h
  cases h
  exact F
set_option maxRecDepth 20000 in
set_option maxHeartbeats 4000000 in
theorem fr_Mod_unlike {n : Nat} {x1 : Int32} {I : IM} {b : Nat} {r : Int32 × IM}  (h : f_Mod_unlike n x1 I = some r) (o0 : b < 102 ∨ 102 + 39 ≤ b) : r.2 b = I b := by
  unfold f_Mod_unlike at h
  have F : I b = I b := rfl
  obtain ⟨v1, e2, h⟩ := bnd_e h
  obtain ⟨v4, e5, h⟩ := bnd_e h
  replace F := (fr_Mod_refuse e5 (by first | omega | exact outA o0 (by decide))).trans F
  refine em_t (c := (v4.1 : Int32) = 0) (fun q6 => ?_) (fun q6 => ?_)
  · replace h := ite_t h q6
    refine em_f (c := x1 = 0) (fun q7 => ?_) (fun q7 => ?_)
    · replace h := ite_f h q7
      refine em_f (c := x1 = (1 : Int32)) (fun q8 => ?_) (fun q8 => ?_)
      · replace h := ite_f h q8
        refine em_f (c := x1 = (2 : Int32)) (fun q9 => ?_) (fun q9 => ?_)
        · replace h := ite_f h q9
          refine em_t (c := (40 : Int32) ≤ (v4.2 A_other (5 : Int32).toNatClampNeg : Int32)) (fun q11 => ?_) (fun q11 => ?_)
          · replace h := ite_t h q11
            exact (fb_Mod_unlike_211 o0  h).trans F
          · replace h := ite_f h q11
            exact (fb_Mod_unlike_211 o0  h).trans F
        · replace h := ite_t h q9
          obtain ⟨v12, e13, h⟩ := bnd_e h
          obtain ⟨v14, e15, h⟩ := bnd_e h
          refine em_t (c := 0 ≤ v14) (fun q16 => ?_) (fun q16 => ?_)
          · replace h := ite_t h q16
            exact (fb_Mod_unlike_168 o0  h).trans F
          · replace h := ite_f h q16
            refine em_f (c := (v4.2 MO 42 : Int32) = (v4.2 A_other (1 : Int32).toNatClampNeg : Int32)) (fun q17 => ?_) (fun q17 => ?_)
            · replace h := ite_f h q17
              exact (fb_Mod_unlike_163 o0  h).trans F
            · replace h := ite_t h q17
              cases h
              exact F
      · replace h := ite_t h q8
        obtain ⟨v19, e20, h⟩ := bnd_e h
        obtain ⟨v21, e22, h⟩ := bnd_e h
        obtain ⟨v23, e24, h⟩ := bnd_e h
        cases h
        exact F
    · replace h := ite_t h q7
      obtain ⟨v25, e26, h⟩ := bnd_e h
      obtain ⟨v27, e28, h⟩ := bnd_e h
      cases h
      exact F
  · replace h := ite_f h q6
    cases h
    exact F
