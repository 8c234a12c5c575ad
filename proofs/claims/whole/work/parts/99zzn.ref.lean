/-! the reference's listing -/
theorem wd_k : ∀ kd, kd < 22 → lt96 (rLs.getD kd []) = kwd kd 116 := by decide +kernel
theorem wd_n : lt96 (rLs.getD 69 []) ++ [nI 32] = bw_311 := by decide +kernel
theorem wd_a : (nI 32 :: lt96 (rLs.getD 31 [])) ++ [nI 32] = bw_319 := by decide +kernel
theorem wd_b : (nI 32 :: lt96 (rLs.getD 32 [])) ++ [nI 32] = bw_325 := by decide +kernel
theorem wd_c : (nI 32 :: lt96 (rLs.getD 33 [])) ++ [nI 32] = bw_327 := by decide +kernel
theorem wd_m : (nI 32 :: lt96 (rLs.getD 40 [])) ++ [nI 32] = bw_329 := by decide +kernel
theorem wd_t : (nI 32 :: lt96 (rLs.getD 51 [])) ++ [nI 32] = bw_331 := by decide +kernel
theorem rl_8 : ∀ w, w < 70 → (rLs.getD w []).length ≤ 12 := by decide +kernel
theorem say_part {n w : Nat} {J : JM} {v : Int32} {I0 I : IM} {L bs : List Int32} (hJ : JOK J) (hn : 100 ≤ n) (hw : w < 70) (hb : (nI 32 :: lt96 (rLs.getD w [])) ++ [nI 32] = bs) (h : RSa I0 L I) (hne : ¬ L = []) (hl : L.length ≤ 50) : ∃ I', f_Mod_sayPart n J (nI w) v I = some I' ∧ RSa I0 (L ++ wfl bs v) I' := by
  unfold f_Mod_sayPart
  by_cases z : v = 0
  · rw [if_pos z]
    refine ⟨I, rfl, ?_⟩
    rw [show wfl bs v = [] from if_pos z, List.append_nil]
    exact h
  · have h12 := rl_8 w hw
    obtain ⟨I1, e1, r1⟩ := say_word (n := n) hJ hn hw h (by omega)
    rw [if_neg hne] at r1
    have hlen : (L ++ ([nI 32] ++ lt96 (rLs.getD w []))).length ≤ 70 := by
      rw [List.length_append, List.length_append]
      show L.length + (1 + ((rLs.getD w []).map (fun c => nI (96 + c))).length) ≤ 70
      rw [List.length_map]
      omega
    obtain ⟨I2, e2, r2⟩ := say_num (n := n) (v := v) hn r1 hlen
    refine ⟨I2, ?_, ?_⟩
    · rw [if_neg z, e1, Option.bind_some, e2]
      rfl
    · rw [show wfl bs v = bs ++ dS v from if_neg z, ← hb]
      rw [List.append_assoc] at r2
      rw [List.append_assoc]
      exact r2
def atR (L : List Int32) (i : Nat) : Int32 := if i < L.length then L.getD i 0 else -1
theorem hW_ne : ∀ kd, kd < 22 → ¬ kwd kd 116 = [] := by decide +kernel
theorem ref_list {n i : Nat} {J : JM} {x1 : Int32} {I : IM} (hJ : JOK J) (hn : 100 ≤ n) (h0 : ¬ x1 < 0) (h1 : ¬ (63 : Int32) < x1) (hb : inb x1 64) (hi : i < 2 ^ 31) : ∃ I', f_Mod_listing n J x1 (nI i) I = some (atR (lineOf (I A_code x1.toNatClampNeg) (I A_codeTags x1.toNatClampNeg)) i, I') ∧ (∀ a, a ≠ MO → a ≠ A_list → I' a = I a) ∧ (∀ k, k ≠ 8 → k ≠ 0 → I' MO k = I MO k) ∧ I' MO 0 = 0 := by
  obtain ⟨c, hc⟩ : ∃ c, c = I A_code x1.toNatClampNeg := ⟨_, rfl⟩
  obtain ⟨t, ht⟩ : ∃ t, t = I A_codeTags x1.toNatClampNeg := ⟨_, rfl⟩
  rw [← hc, ← ht]
  have hin : f_Mod_in x1 0 63 I = some 1 := by
    unfold f_Mod_in
    rw [if_neg h0, if_neg h1]
  have hre : f_Mod_refuse (if (1 : Int32) = 0 then 1 else (if 0 ≤ nI i then 0 else 1)) 0 I = some (0, up I MO 0 0) := by
    rw [if_neg (by decide), if_pos (nI_pos' hi)]
    unfold f_Mod_refuse
    rw [if_pos rfl, if_pos rfl]
    show some (if up I MO 0 0 MO 0 ≤ 0 then 0 else 1, up I MO 0 0) = _
    rw [up_self]
    rfl
  have hcode : up I MO 0 0 A_code x1.toNatClampNeg = c := by rw [up_row (by decide), hc]
  obtain ⟨k1, k2⟩ := kdO_e c
  have b0 := hW_le k1
  have a7 := wfl_7 (bs := bw_319) (x := c >>> ((5 : Int32) &&& 31))
  have b7 := wfl_7 (bs := bw_325) (x := c >>> ((8 : Int32) &&& 31))
  have c7 := wfl_7 (bs := bw_327) (x := c >>> ((11 : Int32) &&& 31))
  have n7 := wfl_le (bs := bw_329) (x := lfN c)
  change (dS (lfA c)).length = 1 ∧ (wfl bw_319 (lfA c)).length ≤ 3 + 1 at a7
  change (dS (lfB c)).length = 1 ∧ (wfl bw_325 (lfB c)).length ≤ 3 + 1 at b7
  change (dS (lfC c)).length = 1 ∧ (wfl bw_327 (lfC c)).length ≤ 3 + 1 at c7
  change (wfl bw_329 (lfN c)).length ≤ 3 + 11 at n7
  have hne : ¬ hW (kdO c) = [] := by
    unfold hW
    split
    · rename_i q
      exact hW_ne _ q
    · exact fun q => by cases q
  have ne : ∀ {A B : List Int32}, ¬ A = [] → ¬ A ++ B = [] := fun h q => h (List.append_eq_nil_iff.mp q).1
  have tail : ∀ I1 : IM, RSa (up I MO 0 0) (hW (kdO c)) I1 → ∃ I', b_Mod_listing_75 n J x1 (nI i) c I1 = some (atR (lineOf c t) i, I') ∧ RSa (up I MO 0 0) (lineOf c t) I' := fun I1 r1 => by
    obtain ⟨I2, e2, r2⟩ := say_part (v := lfA c) hJ hn (show 31 < 70 by decide) wd_a r1 hne (by omega)
    obtain ⟨I3, e3, r3⟩ := say_part (v := lfB c) hJ hn (show 32 < 70 by decide) wd_b r2 (ne hne) (by rw [List.length_append]; omega)
    obtain ⟨I4, e4, r4⟩ := say_part (v := lfC c) hJ hn (show 33 < 70 by decide) wd_c r3 (ne (ne hne)) (by rw [List.length_append, List.length_append]; omega)
    obtain ⟨I5, e5, r5⟩ := say_part (v := lfN c) hJ hn (show 40 < 70 by decide) wd_m r4 (ne (ne (ne hne))) (by rw [List.length_append, List.length_append, List.length_append]; omega)
    have h5 : I5 A_codeTags x1.toNatClampNeg = t := by rw [r5.2.2.1 A_codeTags (by decide) (by decide), up_row (by decide), ht]
    obtain ⟨I6, e6, r6⟩ := say_part (v := t) hJ hn (show 51 < 70 by decide) wd_t r5 (ne (ne (ne (ne hne)))) (by rw [List.length_append, List.length_append, List.length_append, List.length_append]; omega)
    refine ⟨I6, ?_, r6⟩
    unfold b_Mod_listing_75
    rw [show f_Mod_sayPart n J 31 ((c >>> ((5 : Int32) &&& 31)) &&& 7) I1 = some I2 from e2, Option.bind_some, show f_Mod_sayPart n J 32 ((c >>> ((8 : Int32) &&& 31)) &&& 7) I2 = some I3 from e3, Option.bind_some, show f_Mod_sayPart n J 33 ((c >>> ((11 : Int32) &&& 31)) &&& 7) I3 = some I4 from e4, Option.bind_some, show f_Mod_sayPart n J 40 (c >>> ((16 : Int32) &&& 31)) I4 = some I5 from e5, Option.bind_some, chk_i hb, h5, show f_Mod_sayPart n J 51 t I5 = some I6 from e6, Option.bind_some]
    have t7 := wfl_le (bs := bw_331) (x := t)
    change (wfl bw_331 t).length ≤ 5 + 11 at t7
    have hL : (lineOf c t).length ≤ 60 := by
      unfold lineOf
      rw [List.length_append, List.length_append, List.length_append, List.length_append, List.length_append]
      omega
    by_cases q : I6 MO 8 ≤ nI i
    · rw [if_pos q]
      rw [r6.1] at q
      have := (nI_leI (a := (lineOf c t).length) (by omega) hi).mp q
      rw [show atR (lineOf c t) i = -1 from if_neg (by omega)]
      rfl
    · rw [if_neg q]
      rw [r6.1] at q
      have hlt : i < (lineOf c t).length := Nat.lt_of_not_le (fun h => q (nI_le h hi))
      rw [chk_i (nki (by omega) (by decide)), nkc (by omega), r6.2.1 i hlt, show atR (lineOf c t) i = (lineOf c t).getD i 0 from if_pos hlt]
      rfl
  have r0 : RSa (up I MO 0 0) [] (up (up I MO 0 0) MO 8 0) := ⟨up_self, fun j hj => absurd hj (Nat.not_lt_zero _), fun a ha _ => up_row ha, fun k hk => up_ne (Or.inr hk)⟩
  have fin : ∀ I', RSa (up I MO 0 0) (lineOf c t) I' → (∀ a, a ≠ MO → a ≠ A_list → I' a = I a) ∧ (∀ k, k ≠ 8 → k ≠ 0 → I' MO k = I MO k) ∧ I' MO 0 = 0 := fun I' r => ⟨fun a ha hb => (r.2.2.1 a ha hb).trans (up_row ha), fun k h8 h0 => (r.2.2.2 k h8).trans (up_ne (Or.inr h0)), (r.2.2.2 0 (by decide)).trans up_self⟩
  unfold f_Mod_listing
  rw [hin, Option.bind_some, hre, Option.bind_some, if_pos rfl, chk_i hb]
  show ∃ I', (if (22 : Int32) ≤ (up I MO 0 0 A_code x1.toNatClampNeg &&& 31) then _ else _) = _ ∧ _
  rw [hcode, k2]
  by_cases q : (22 : Int32) ≤ nI (kdO c)
  · rw [if_pos q]
    have hq : ¬ kdO c < 22 := by
      have := (nI_leI (a := 22) (by omega) (by omega)).mp q
      omega
    have h12 := rl_8 69 (by decide)
    obtain ⟨I1, e1, r1⟩ := say_word (n := n) hJ hn (show 69 < 70 by decide) r0 (by show 0 + 1 + _ ≤ 90; omega)
    rw [if_pos rfl] at r1
    obtain ⟨I2, e2, r2⟩ := say_num (n := n) (v := nI (kdO c)) hn r1 (by
      show ((rLs.getD 69 []).map (fun c => nI (96 + c))).length ≤ 70
      rw [List.length_map]
      omega)
    have eh : hW (kdO c) = ([] ++ ([] ++ lt96 (rLs.getD 69 []))) ++ (nI 32 :: dS (nI (kdO c))) := by
      rw [show hW (kdO c) = bw_311 ++ dS (nI (kdO c)) from if_neg hq, ← wd_n, List.append_assoc]
      rfl
    rw [← eh] at r2
    obtain ⟨I3, e3, r3⟩ := tail I2 r2
    refine ⟨I3, ?_, fin I3 r3⟩
    dsimp only
    rw [hcode, k2, show f_Mod_sayWord n J 69 (up (up I MO 0 0) MO 8 0) = some I1 from e1, Option.bind_some, e2, Option.bind_some]
    exact e3
  · rw [if_neg q]
    have hq : kdO c < 22 := Nat.lt_of_not_le (fun h => q (nI_le (a := 22) h (by omega)))
    have h12 := rl_8 (kdO c) (by omega)
    obtain ⟨I1, e1, r1⟩ := say_word (n := n) hJ hn (show kdO c < 70 by omega) r0 (by show 0 + 1 + _ ≤ 90; omega)
    rw [if_pos rfl, wd_k _ hq] at r1
    have eh : hW (kdO c) = [] ++ ([] ++ kwd (kdO c) 116) := if_pos hq
    rw [← eh] at r1
    obtain ⟨I3, e3, r3⟩ := tail I1 r1
    refine ⟨I3, ?_, fin I3 r3⟩
    dsimp only
    rw [hcode, k2, e1, Option.bind_some]
    exact e3
