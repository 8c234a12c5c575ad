/-! one code of a rule, on both sides -/
theorem fgt_l {n W : Nat} : ∀ (d f k : Nat) (C : IM), k + d = 10 → d < f → 1 ≤ k → ∃ C', l_Wrk_forgetAnswer_2 n W f (nI k) C = some C' ∧ (∀ b, b ≠ W + 1 → C' b = C b) ∧ C' (W + 1) 5 = -1 ∧ (∀ j, k ≤ j → j < 10 → j ≠ 5 → C' (W + 1) j = 0) ∧ ∀ j, j < k ∨ 10 ≤ j → j ≠ 5 → C' (W + 1) j = C (W + 1) j
  | 0, f + 1, k, C, hd, _, _ => by
    have hk : k = 10 := by omega
    subst hk
    refine ⟨up C (W + 1) 5 (-1), ?_, fun b hb => fu hb, up_self, fun j h1 h2 _ => by omega, fun j _ h => up_ne (Or.inr h)⟩
    rw [l_Wrk_forgetAnswer_2, if_pos (by decide), lt]
    rfl
  | d + 1, f + 1, k, C, hd, hf, h1 => by
    obtain ⟨C', e, a1, a2, a3, a4⟩ := fgt_l (n := n) (W := W) d f (k + 1) (up C (W + 1) k 0) (by omega) (by omega) (by omega)
    refine ⟨C', ?_, fun b hb => ?_, a2, fun j q1 q2 q3 => ?_, fun j q1 q2 => ?_⟩
    · rw [l_Wrk_forgetAnswer_2, if_neg (show ¬ (10 : Int32) ≤ nI k from nk (N := 10) (by omega) (by decide)), chk_i (nki (by omega) (by decide)), lt, nkc (by omega), nk1]
      exact e
    · rw [a1 b hb, fu hb]
    · by_cases z : j = k
      · subst z
        rw [a4 j (Or.inl (by omega)) q3, up_self]
      · exact a3 j (by omega) q2 q3
    · rw [a4 j (by omega) q2, up_ne (Or.inr (by omega))]
theorem fgt {n W : Nat} {C : IM} (hn : 1000 ≤ n) : ∃ C', f_Wrk_forgetAnswer n W C = some C' ∧ (∀ b, b ≠ W + 1 → C' b = C b) ∧ C' (W + 1) 5 = -1 ∧ (∀ j, 1 ≤ j → j < 10 → j ≠ 5 → C' (W + 1) j = 0) ∧ ∀ j, j < 1 ∨ 10 ≤ j → C' (W + 1) j = C (W + 1) j := by
  obtain ⟨C', e, a1, a2, a3, a4⟩ := fgt_l (n := n) (W := W) 9 n 1 C (by omega) (by omega) (by omega)
  exact ⟨C', e, a1, a2, a3, fun j hj => a4 j hj (by omega)⟩
theorem enw {n W : Nat} {C : IM} {x : Int32} (hn : 1000 ≤ n) : ∃ C', f_Wrk_endWith n W x C = some C' ∧ (∀ b, b ≠ W + 1 → C' b = C b) ∧ C' (W + 1) 1 = x ∧ C' (W + 1) 5 = -1 ∧ (∀ j, 2 ≤ j → j < 10 → j ≠ 5 → C' (W + 1) j = 0) ∧ ∀ j, j < 1 ∨ 10 ≤ j → C' (W + 1) j = C (W + 1) j := by
  obtain ⟨C', e, a1, a2, a3, a4⟩ := fgt (n := n) (W := W) (C := C) hn
  refine ⟨up C' (W + 1) 1 x, ?_, fun b hb => ?_, up_self, ?_, fun j q1 q2 q3 => ?_, fun j hj => ?_⟩
  · rw [f_Wrk_endWith, e, Option.bind_some, lt]
    rfl
  · rw [fu hb, a1 b hb]
  · rw [up_ne (Or.inr (by decide)), a2]
  · rw [up_ne (Or.inr (by omega)), a3 j (by omega) q2 q3]
  · rw [up_ne (Or.inr (by omega)), a4 j hj]
/-- the reference's cells that a rule leaves alone -/
def FRr (R0 R : IM) : Prop := (∀ b, b ≠ MO → b ≠ A_stack → b ≠ A_firsts → b ≠ A_seconds → R b = R0 b) ∧ ∀ j, ¬ (82 ≤ j ∧ j ≤ 86) → j ≠ 55 → j ≠ 68 → R MO j = R0 MO j
theorem FRr_of {R0 R : IM} (h : FR R0 R) : FRr R0 R := ⟨h.1, fun j q1 q2 q3 => h.2 j (by omega) q2 (by omega)⟩
theorem FRr_t {R0 R R' : IM} (h : FRr R0 R) (h' : FRr R R') : FRr R0 R' := ⟨fun b q1 q2 q3 q4 => by rw [h'.1 b q1 q2 q3 q4, h.1 b q1 q2 q3 q4], fun j q1 q2 q3 => by rw [h'.2 j q1 q2 q3, h.2 j q1 q2 q3]⟩
/-- the reference's nameValue hangs on cells that stay as they are while a rule is worked out -/
theorem nv_r {R0 R : IM} {x : Int32} (h : FRr R0 R) : f_Mod_nameValue x R = f_Mod_nameValue x R0 := by
  obtain ⟨h1, h2⟩ := h
  unfold f_Mod_nameValue b_Mod_nameValue_202 b_Mod_nameValue_232 b_Mod_nameValue_258 b_Mod_nameValue_259
  rw [h2 69 (by decide) (by decide) (by decide), h2 43 (by decide) (by decide) (by decide), h2 44 (by decide) (by decide) (by decide), h2 34 (by decide) (by decide) (by decide), h2 42 (by decide) (by decide) (by decide), h2 45 (by decide) (by decide) (by decide), h2 52 (by decide) (by decide) (by decide), h2 75 (by decide) (by decide) (by decide), h2 76 (by decide) (by decide) (by decide), h2 77 (by decide) (by decide) (by decide), h2 78 (by decide) (by decide) (by decide), h2 79 (by decide) (by decide) (by decide), h2 80 (by decide) (by decide) (by decide), h2 81 (by decide) (by decide) (by decide), h1 A_registerTags (by decide) (by decide) (by decide) (by decide), h1 A_registers (by decide) (by decide) (by decide) (by decide), h1 A_held (by decide) (by decide) (by decide) (by decide), h1 A_owners (by decide) (by decide) (by decide) (by decide), h1 A_inputTags (by decide) (by decide) (by decide) (by decide), h1 A_codeTags (by decide) (by decide) (by decide) (by decide), h1 A_caseValue (by decide) (by decide) (by decide) (by decide)]
theorem nv_c {R0 R : IM} {x : Int32} (h : FR R0 R) : f_Mod_nameValue x R = f_Mod_nameValue x R0 := nv_r (FRr_of h)
/-- the class's value of a step that takes one value -/
theorem vo_un {n W m h : Nat} {C : IM} {st ex v : Int32} (hh : C W 2 = nI (h + 1)) (hh2 : h < 64) (hv : f_Wrk_valueOf n W st ex m C = Option.bind (f_Wrk_pop W C) fun z => some (v, z.2)) : f_Wrk_valueOf n W st ex m C = some (v, up C W 2 (nI h)) := by
  rw [hv, pop_f hh hh2, Option.bind_some]
theorem vo_bin {n W m h : Nat} {C : IM} {st ex v : Int32} (hh : C W 2 = nI (h + 2)) (hh2 : h < 60) (hz : ∀ z ∈ ([38, 39, 40, 101, 103, 104, 161, 254, 37] : List Int32), ¬ st = z) (hv : ∀ D, f_Wrk_combine st (C (W + 2) h) (C (W + 2) (h + 1)) D = some v) : f_Wrk_valueOf n W st ex m C = some (v, up C W 2 (nI h)) := by
  have p1 : f_Wrk_pop W C = some (C (W + 2) (h + 1), up C W 2 (nI (h + 1))) := pop_f (h := h + 1) hh (by omega)
  have p2 : f_Wrk_pop W (up C W 2 (nI (h + 1))) = some (C (W + 2) h, up C W 2 (nI h)) := by
    rw [pop_f (h := h) up_self (by omega), up_o (by omega), up_up]
  rw [f_Wrk_valueOf, if_neg (hz 38 (by decide)), if_neg (hz 39 (by decide)), if_neg (hz 40 (by decide)), if_neg (hz 101 (by decide)), if_neg (hz 103 (by decide)), if_neg (hz 104 (by decide)), if_neg (hz 161 (by decide)), if_neg (hz 254 (by decide)), p1, Option.bind_some, p2, Option.bind_some, if_neg (hz 37 (by decide)), hv, Option.bind_some, b_Wrk_valueOf_207]
theorem two_eq {n : Nat} {x y : Int32} {R : IM} {c : Int32} (hc : c ∈ ([38, 43, 45, 60, 94, 124, 202, 203, 204] : List Int32)) : ∃ v, (∀ D, f_Wrk_combine (trS c) x y D = some v) ∧ (∀ D, f_Mod_two n c x y D = some (v, D)) ∧ (∀ D, f_Mod_isOne c D = some 0) ∧ (∀ z ∈ ([38, 39, 40, 101, 103, 104, 161, 254, 37, 186, 191] : List Int32), ¬ trS c = z) ∧ (trS c < 41 ∨ 44 < trS c) ∧ ¬ c = 300 ∧ c < 500 ∧ ¬ c = 303 ∧ ¬ c = 302 := by
  simp only [List.mem_cons, List.not_mem_nil, or_false] at hc
  rcases hc with rfl | rfl | rfl | rfl | rfl | rfl | rfl | rfl | rfl
  · exact ⟨x &&& y, fun _ => rfl, fun _ => rfl, fun _ => rfl, by decide, by decide, by decide, by decide, by decide, by decide⟩
  · exact ⟨x + y, fun _ => rfl, fun _ => rfl, fun _ => rfl, by decide, by decide, by decide, by decide, by decide, by decide⟩
  · exact ⟨x - y, fun _ => rfl, fun _ => rfl, fun _ => rfl, by decide, by decide, by decide, by decide, by decide, by decide⟩
  · exact ⟨if y ≤ x then 0 else 1, fun _ => rfl, fun _ => rfl, fun _ => rfl, by decide, by decide, by decide, by decide, by decide, by decide⟩
  · exact ⟨x ^^^ y, fun _ => rfl, fun _ => rfl, fun _ => rfl, by decide, by decide, by decide, by decide, by decide, by decide⟩
  · exact ⟨x ||| y, fun _ => rfl, fun _ => rfl, fun _ => rfl, by decide, by decide, by decide, by decide, by decide, by decide⟩
  · exact ⟨if x = y then 1 else 0, fun _ => rfl, fun _ => rfl, fun _ => rfl, by decide, by decide, by decide, by decide, by decide, by decide⟩
  · exact ⟨if x = y then 0 else 1, fun _ => rfl, fun _ => rfl, fun _ => rfl, by decide, by decide, by decide, by decide, by decide, by decide⟩
  · exact ⟨if y < x then 0 else 1, fun _ => rfl, fun _ => rfl, fun _ => rfl, by decide, by decide, by decide, by decide, by decide, by decide⟩
theorem one_eq {n W m h : Nat} {C R : IM} {ex c : Int32} (hn : 1000 ≤ n) (hm : isMch m) (hw : Wm W m) (hh : C W 2 = nI (h + 1)) (hh2 : h < 60) (hx : C (W + 2) h = R A_stack h) (pp : PP m C R) (ho : ∀ k, k < 96 → C (m + 5) k = R A_owners k) (hc : c ∈ ([33, 126, 301, 311, 312, 313] : List Int32)) : ∃ v, f_Wrk_valueOf n W (trS c) ex m C = some (v, up C W 2 (nI h)) ∧ f_Mod_one n c (R A_stack h) R = some v ∧ f_Mod_isOne c R = some 1 ∧ ¬ trS c = 186 ∧ ¬ trS c = 191 ∧ ¬ trS c = 37 ∧ (trS c < 41 ∨ 44 < trS c) ∧ ¬ c = 300 ∧ c < 500 ∧ ¬ c = 303 ∧ ¬ c = 302 := by
  have p1 := pop_f hh (show h < 64 by omega)
  have hw' := hw
  unfold Wm at hw'
  have pp1 : PP m (up C W 2 (nI h)) R := PP_c (fu (by omega)) (fu (by omega)) (fu (by omega)) rfl rfl rfl pp
  have ho1 : ∀ k, k < 96 → up C W 2 (nI h) (m + 5) k = R A_owners k := fun k hk => by rw [up_o (by omega)]; exact ho k hk
  simp only [List.mem_cons, List.not_mem_nil, or_false] at hc
  rcases hc with rfl | rfl | rfl | rfl | rfl | rfl
  · refine ⟨if R A_stack h = 0 then 1 else 0, ?_, rfl, rfl, by decide, by decide, by decide, by decide, by decide, by decide, by decide, by decide⟩
    show (Option.bind (f_Wrk_pop W C) fun z => some (if z.1 = 0 then 1 else 0, z.2)) = _
    rw [p1, Option.bind_some, hx]
  · refine ⟨R A_stack h ^^^ (-1), ?_, rfl, rfl, by decide, by decide, by decide, by decide, by decide, by decide, by decide, by decide⟩
    show (Option.bind (f_Wrk_pop W C) fun z => some (z.1 ^^^ (-1), z.2)) = _
    rw [p1, Option.bind_some, hx]
  · refine ⟨-(R A_stack h), ?_, rfl, rfl, by decide, by decide, by decide, by decide, by decide, by decide, by decide, by decide⟩
    show (Option.bind (f_Wrk_pop W C) fun z => some (-(z.1), z.2)) = _
    rw [p1, Option.bind_some, hx]
  · obtain ⟨⟨v, e1, e2⟩, -⟩ := pt_eq (x := R A_stack h) hm pp1
    refine ⟨v, ?_, ?_, rfl, by decide, by decide, by decide, by decide, by decide, by decide, by decide, by decide⟩
    · show (Option.bind (f_Wrk_pop W C) fun z => Option.bind (f_Mch_partOf m z.1 (m + 11) z.1 z.2) fun u => some (u, z.2)) = _
      rw [p1, Option.bind_some, hx, e1, Option.bind_some]
    · show (Option.bind (f_Mod_part (R A_stack h) 1 R) fun u => some u) = _
      rw [e2, Option.bind_some]
  · obtain ⟨-, ⟨v, e1, e2⟩⟩ := pt_eq (x := R A_stack h) hm pp1
    refine ⟨v, ?_, ?_, rfl, by decide, by decide, by decide, by decide, by decide, by decide, by decide, by decide⟩
    · show (Option.bind (f_Wrk_pop W C) fun z => Option.bind (f_Mch_partOf m z.1 (m + 12) 0 z.2) fun u => some (u, z.2)) = _
      rw [p1, Option.bind_some, hx, e1, Option.bind_some]
    · show (Option.bind (f_Mod_part (R A_stack h) 0 R) fun u => some u) = _
      rw [e2, Option.bind_some]
  · obtain ⟨v, e1, e2⟩ := bs_eq (o := R A_stack h) hn ho1
    refine ⟨v, ?_, ?_, rfl, by decide, by decide, by decide, by decide, by decide, by decide, by decide, by decide⟩
    · show (Option.bind (f_Wrk_pop W C) fun z => Option.bind (f_Mch_baseOf n m z.1 z.2) fun u => some (u, z.2)) = _
      rw [p1, Option.bind_some, hx, e1, Option.bind_some]
    · show (Option.bind (f_Mod_baseOf n (R A_stack h) R) fun u => some u) = _
      rw [e2, Option.bind_some]
theorem nm_k : ∀ k, k < 15 → trS (nI (500 + k)) = 103 ∧ ¬ nI (500 + k) = 300 ∧ 500 ≤ nI (500 + k) ∧ nI (500 + k) - 500 = nI k ∧ ¬ nI (500 + k) < 500 ∧ ¬ isJ (nI (500 + k)) ∧ ¬ nI k < 0 ∧ ¬ (15 : Int32) ≤ nI k ∧ (10 : Int32) + nI k = nI (10 + k) ∧ inb (nI (10 + k)) 25 := by
  intro k hk
  have : ∀ k, k < 15 → trS (nI (500 + k)) = 103 ∧ ¬ nI (500 + k) = 300 ∧ 500 ≤ nI (500 + k) ∧ nI (500 + k) - 500 = nI k ∧ ¬ nI (500 + k) < 500 ∧ (¬ nI (500 + k) = 302 ∧ ¬ nI (500 + k) = 303) ∧ ¬ nI k < 0 ∧ ¬ (15 : Int32) ≤ nI k := by decide
  obtain ⟨a1, a2, a3, a4, a5, a6, a7, a8⟩ := this k hk
  exact ⟨a1, a2, a3, a4, a5, fun z => z.elim a6.1 a6.2, a7, a8, nad (a := 10), nki (by omega) (by decide)⟩
