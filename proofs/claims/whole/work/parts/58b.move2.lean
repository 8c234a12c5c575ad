/-! the reference's moveAll as one function: what it leaves -/
theorem c16 {j : Nat} (h : j < 16) : j = 0 ∨ j = 1 ∨ j = 2 ∨ j = 3 ∨ j = 4 ∨ j = 5 ∨ j = 6 ∨ j = 7 ∨ j = 8 ∨ j = 9 ∨ j = 10 ∨ j = 11 ∨ j = 12 ∨ j = 13 ∨ j = 14 ∨ j = 15 := by omega
def sOut (I : IM) : IM := (up (up (up (up (up (up (up (up (up (up (up (up (up (up (up (up I 138 0 (I 102 34)) 138 1 (I 102 42)) 138 2 (I 102 43)) 138 3 (I 102 44)) 138 4 (I 102 45)) 138 5 (I 102 48)) 138 6 (I 102 50)) 138 7 (I 102 51)) 138 8 (I 102 52)) 138 9 (I 102 53)) 138 10 (I 102 54)) 138 11 (I 102 55)) 138 12 (I 102 58)) 138 13 (I 102 59)) 138 14 (I 102 63)) 138 15 (I 102 66))
theorem sOut_s {I : IM} {j : Nat} (h : j < 16) : sOut I 138 j = I 102 (scF.getD j 34) := by
  rcases c16 h with rfl | rfl | rfl | rfl | rfl | rfl | rfl | rfl | rfl | rfl | rfl | rfl | rfl | rfl | rfl | rfl <;> simp [sOut, up_at, scF]
theorem sOut_o {I : IM} {b : Nat} (h : b ≠ 138) : sOut I b = I b := by
  unfold sOut
  rw [fu h, fu h, fu h, fu h, fu h, fu h, fu h, fu h, fu h, fu h, fu h, fu h, fu h, fu h, fu h, fu h]
def sIn (I : IM) : IM := (up (up (up (up (up (up (up (up (up (up (up (up (up (up (up (up I 102 34 (I 138 0)) 102 42 (I 138 1)) 102 43 (I 138 2)) 102 44 (I 138 3)) 102 45 (I 138 4)) 102 48 (I 138 5)) 102 50 (I 138 6)) 102 51 (I 138 7)) 102 52 (I 138 8)) 102 53 (I 138 9)) 102 54 (I 138 10)) 102 55 (I 138 11)) 102 58 (I 138 12)) 102 59 (I 138 13)) 102 63 (I 138 14)) 102 66 (I 138 15))
theorem sIn_s {I : IM} {j : Nat} (h : j < 16) : sIn I 102 (scF.getD j 34) = I 138 j := by
  rcases c16 h with rfl | rfl | rfl | rfl | rfl | rfl | rfl | rfl | rfl | rfl | rfl | rfl | rfl | rfl | rfl | rfl <;> simp [sIn, up_at, scF]
theorem sIn_n {I : IM} {j : Nat} (h : j ∉ scF) : sIn I 102 j = I 102 j := by
  simp only [scF, List.mem_cons, List.not_mem_nil, or_false, not_or] at h
  simp [sIn, up_at, h]
theorem sIn_o {I : IM} {b : Nat} (h : b ≠ 102) : sIn I b = I b := by
  unfold sIn
  rw [fu h, fu h, fu h, fu h, fu h, fu h, fu h, fu h, fu h, fu h, fu h, fu h, fu h, fu h, fu h, fu h]
def mvA (I : IM) (o : Int32) : IM := (MR (MR (MR (MR (MR (MR (MR (MR (MR (MR (MR (MR (MR (MR (MR (MR (sIn (MR (sOut I) 138 16 0 o)) 119 64 20 o) 120 64 84 o) 121 96 148 o) 122 96 244 o) 123 96 340 o) 124 8 436 o) 125 8 444 o) 126 16 452 o) 127 16 468 o) 128 40 484 o) 129 60 524 o) 130 60 584 o) 131 128 644 o) 132 40 772 o) 134 96 812 o) 135 88 908 o)
set_option maxRecDepth 20000 in
set_option maxHeartbeats 4000000 in
theorem mvA_f {n : Nat} {I : IM} {o : Int32} (hn : 1000 ≤ n) : f_Mod_moveAll n o I = some (mvA I o) := by
  have hz : ∀ J : IM, f_Mod_moveRow n A_scalars 16 0 o J = some (MR J 138 16 0 o) := fun J => mr_f (w := 138) (m := 16) (off := 0) hn (by decide) (by decide) (by decide) (by decide) (by decide)
  have h0 : ∀ J : IM, f_Mod_moveRow n A_code 64 20 o J = some (MR J 119 64 20 o) := fun J => mr_f (w := 119) (m := 64) (off := 20) hn (by decide) (by decide) (by decide) (by decide) (by decide)
  have h1 : ∀ J : IM, f_Mod_moveRow n A_codeTags 64 84 o J = some (MR J 120 64 84 o) := fun J => mr_f (w := 120) (m := 64) (off := 84) hn (by decide) (by decide) (by decide) (by decide) (by decide)
  have h2 : ∀ J : IM, f_Mod_moveRow n A_ints 96 148 o J = some (MR J 121 96 148 o) := fun J => mr_f (w := 121) (m := 96) (off := 148) hn (by decide) (by decide) (by decide) (by decide) (by decide)
  have h3 : ∀ J : IM, f_Mod_moveRow n A_held 96 244 o J = some (MR J 122 96 244 o) := fun J => mr_f (w := 122) (m := 96) (off := 244) hn (by decide) (by decide) (by decide) (by decide) (by decide)
  have h4 : ∀ J : IM, f_Mod_moveRow n A_owners 96 340 o J = some (MR J 123 96 340 o) := fun J => mr_f (w := 123) (m := 96) (off := 340) hn (by decide) (by decide) (by decide) (by decide) (by decide)
  have h5 : ∀ J : IM, f_Mod_moveRow n A_registers 8 436 o J = some (MR J 124 8 436 o) := fun J => mr_f (w := 124) (m := 8) (off := 436) hn (by decide) (by decide) (by decide) (by decide) (by decide)
  have h6 : ∀ J : IM, f_Mod_moveRow n A_registerTags 8 444 o J = some (MR J 125 8 444 o) := fun J => mr_f (w := 125) (m := 8) (off := 444) hn (by decide) (by decide) (by decide) (by decide) (by decide)
  have h7 : ∀ J : IM, f_Mod_moveRow n A_inputValues 16 452 o J = some (MR J 126 16 452 o) := fun J => mr_f (w := 126) (m := 16) (off := 452) hn (by decide) (by decide) (by decide) (by decide) (by decide)
  have h8 : ∀ J : IM, f_Mod_moveRow n A_inputTags 16 468 o J = some (MR J 127 16 468 o) := fun J => mr_f (w := 127) (m := 16) (off := 468) hn (by decide) (by decide) (by decide) (by decide) (by decide)
  have h9 : ∀ J : IM, f_Mod_moveRow n A_output 40 484 o J = some (MR J 128 40 484 o) := fun J => mr_f (w := 128) (m := 40) (off := 484) hn (by decide) (by decide) (by decide) (by decide) (by decide)
  have h10 : ∀ J : IM, f_Mod_moveRow n A_firsts 60 524 o J = some (MR J 129 60 524 o) := fun J => mr_f (w := 129) (m := 60) (off := 524) hn (by decide) (by decide) (by decide) (by decide) (by decide)
  have h11 : ∀ J : IM, f_Mod_moveRow n A_seconds 60 584 o J = some (MR J 130 60 584 o) := fun J => mr_f (w := 130) (m := 60) (off := 584) hn (by decide) (by decide) (by decide) (by decide) (by decide)
  have h12 : ∀ J : IM, f_Mod_moveRow n A_cache 128 644 o J = some (MR J 131 128 644 o) := fun J => mr_f (w := 131) (m := 128) (off := 644) hn (by decide) (by decide) (by decide) (by decide) (by decide)
  have h13 : ∀ J : IM, f_Mod_moveRow n A_answers 40 772 o J = some (MR J 132 40 772 o) := fun J => mr_f (w := 132) (m := 40) (off := 772) hn (by decide) (by decide) (by decide) (by decide) (by decide)
  have h14 : ∀ J : IM, f_Mod_moveRow n A_entries 96 812 o J = some (MR J 134 96 812 o) := fun J => mr_f (w := 134) (m := 96) (off := 812) hn (by decide) (by decide) (by decide) (by decide) (by decide)
  have h15 : ∀ J : IM, f_Mod_moveRow n A_counts 88 908 o J = some (MR J 135 88 908 o) := fun J => mr_f (w := 135) (m := 88) (off := 908) hn (by decide) (by decide) (by decide) (by decide) (by decide)
  unfold f_Mod_moveAll
  simp only [lt, up_o (show MO ≠ A_scalars by decide)]
  rw [hz, Option.bind_some]
  simp only [up_o (show A_scalars ≠ MO by decide)]
  rw [h0, Option.bind_some]
  rw [h1, Option.bind_some]
  rw [h2, Option.bind_some]
  rw [h3, Option.bind_some]
  rw [h4, Option.bind_some]
  rw [h5, Option.bind_some]
  rw [h6, Option.bind_some]
  rw [h7, Option.bind_some]
  rw [h8, Option.bind_some]
  rw [h9, Option.bind_some]
  rw [h10, Option.bind_some]
  rw [h11, Option.bind_some]
  rw [h12, Option.bind_some]
  rw [h13, Option.bind_some]
  rw [h14, Option.bind_some]
  rw [h15, Option.bind_some]
  rfl
set_option maxRecDepth 20000 in
set_option maxHeartbeats 4000000 in
theorem mvA_s {I : IM} {o : Int32} : (∀ i, i < 16 → ∀ k, k < lenF.getD i 0 → mvA I o (arF.getD i 119) k = if o = 0 then I (arF.getD i 119) k else I 139 (offF.getD i 0 + k)) ∧ (∀ i, i < 16 → ∀ k, k < lenF.getD i 0 → mvA I o 139 (offF.getD i 0 + k) = I (arF.getD i 119) k) ∧ (∀ j, j < 16 → mvA I o 139 j = I 102 (scF.getD j 34)) ∧ (∀ j, j < 16 → mvA I o 102 (scF.getD j 34) = if o = 0 then I 102 (scF.getD j 34) else I 139 j) ∧ (∀ j, j ∉ scF → mvA I o 102 j = I 102 j) ∧ ∀ b, b ≠ 102 → b ≠ 138 → b ≠ 139 → ¬ (119 ≤ b ∧ b < 136) → mvA I o b = I b := by
  have e139 : ∀ j, 16 ≤ j → sIn (MR (sOut I) 138 16 0 o) 139 j = I 139 j := fun j hj => by
    rw [sIn_o (by decide)]
    rw [show MR (sOut I) 138 16 0 o 139 j = sOut I 139 j from MR_out (by decide) (by omega), sOut_o (by decide)]
  have earr : ∀ b, b ≠ 102 → b ≠ 138 → b ≠ 139 → sIn (MR (sOut I) 138 16 0 o) b = I b := fun b h1 h2 h3 => by
    rw [sIn_o h1, MR_b (by exact h3) h2, sOut_o h2]
  have a0 : ∀ k, k < 64 → mvA I o 119 k = if o = 0 then I 119 k else I 139 (20 + k) := fun k hk => by
    unfold mvA
    rw [MR_b (b := 119) (by decide) (by decide), MR_b (b := 119) (by decide) (by decide), MR_b (b := 119) (by decide) (by decide), MR_b (b := 119) (by decide) (by decide), MR_b (b := 119) (by decide) (by decide), MR_b (b := 119) (by decide) (by decide), MR_b (b := 119) (by decide) (by decide), MR_b (b := 119) (by decide) (by decide), MR_b (b := 119) (by decide) (by decide), MR_b (b := 119) (by decide) (by decide), MR_b (b := 119) (by decide) (by decide), MR_b (b := 119) (by decide) (by decide), MR_b (b := 119) (by decide) (by decide), MR_b (b := 119) (by decide) (by decide), MR_b (b := 119) (by decide) (by decide)]
    rw [MR_w (by decide) hk]
    rw [earr 119 (by decide) (by decide) (by decide)]
    congr 1
    exact e139 _ (by omega)
  have b0 : ∀ k, k < 64 → mvA I o 139 (20 + k) = I 119 k := fun k hk => by
    unfold mvA
    refine (MR_out (by decide) (by omega)).trans ((MR_out (by decide) (by omega)).trans ((MR_out (by decide) (by omega)).trans ((MR_out (by decide) (by omega)).trans ((MR_out (by decide) (by omega)).trans ((MR_out (by decide) (by omega)).trans ((MR_out (by decide) (by omega)).trans ((MR_out (by decide) (by omega)).trans ((MR_out (by decide) (by omega)).trans ((MR_out (by decide) (by omega)).trans ((MR_out (by decide) (by omega)).trans ((MR_out (by decide) (by omega)).trans ((MR_out (by decide) (by omega)).trans ((MR_out (by decide) (by omega)).trans ((MR_out (by decide) (by omega)).trans ((MR_in hk).trans ?_)))))))))))))))
    rw [earr 119 (by decide) (by decide) (by decide)]
  have a1 : ∀ k, k < 64 → mvA I o 120 k = if o = 0 then I 120 k else I 139 (84 + k) := fun k hk => by
    unfold mvA
    rw [MR_b (b := 120) (by decide) (by decide), MR_b (b := 120) (by decide) (by decide), MR_b (b := 120) (by decide) (by decide), MR_b (b := 120) (by decide) (by decide), MR_b (b := 120) (by decide) (by decide), MR_b (b := 120) (by decide) (by decide), MR_b (b := 120) (by decide) (by decide), MR_b (b := 120) (by decide) (by decide), MR_b (b := 120) (by decide) (by decide), MR_b (b := 120) (by decide) (by decide), MR_b (b := 120) (by decide) (by decide), MR_b (b := 120) (by decide) (by decide), MR_b (b := 120) (by decide) (by decide), MR_b (b := 120) (by decide) (by decide)]
    rw [MR_w (by decide) hk]
    rw [MR_b (b := 120) (by decide) (by decide)]
    rw [earr 120 (by decide) (by decide) (by decide)]
    congr 1
    exact (MR_out (by decide) (by omega)).trans (e139 _ (by omega))
  have b1 : ∀ k, k < 64 → mvA I o 139 (84 + k) = I 120 k := fun k hk => by
    unfold mvA
    refine (MR_out (by decide) (by omega)).trans ((MR_out (by decide) (by omega)).trans ((MR_out (by decide) (by omega)).trans ((MR_out (by decide) (by omega)).trans ((MR_out (by decide) (by omega)).trans ((MR_out (by decide) (by omega)).trans ((MR_out (by decide) (by omega)).trans ((MR_out (by decide) (by omega)).trans ((MR_out (by decide) (by omega)).trans ((MR_out (by decide) (by omega)).trans ((MR_out (by decide) (by omega)).trans ((MR_out (by decide) (by omega)).trans ((MR_out (by decide) (by omega)).trans ((MR_out (by decide) (by omega)).trans ((MR_in hk).trans ?_))))))))))))))
    rw [MR_b (b := 120) (by decide) (by decide)]
    rw [earr 120 (by decide) (by decide) (by decide)]
  have a2 : ∀ k, k < 96 → mvA I o 121 k = if o = 0 then I 121 k else I 139 (148 + k) := fun k hk => by
    unfold mvA
    rw [MR_b (b := 121) (by decide) (by decide), MR_b (b := 121) (by decide) (by decide), MR_b (b := 121) (by decide) (by decide), MR_b (b := 121) (by decide) (by decide), MR_b (b := 121) (by decide) (by decide), MR_b (b := 121) (by decide) (by decide), MR_b (b := 121) (by decide) (by decide), MR_b (b := 121) (by decide) (by decide), MR_b (b := 121) (by decide) (by decide), MR_b (b := 121) (by decide) (by decide), MR_b (b := 121) (by decide) (by decide), MR_b (b := 121) (by decide) (by decide), MR_b (b := 121) (by decide) (by decide)]
    rw [MR_w (by decide) hk]
    rw [MR_b (b := 121) (by decide) (by decide), MR_b (b := 121) (by decide) (by decide)]
    rw [earr 121 (by decide) (by decide) (by decide)]
    congr 1
    exact (MR_out (by decide) (by omega)).trans ((MR_out (by decide) (by omega)).trans (e139 _ (by omega)))
  have b2 : ∀ k, k < 96 → mvA I o 139 (148 + k) = I 121 k := fun k hk => by
    unfold mvA
    refine (MR_out (by decide) (by omega)).trans ((MR_out (by decide) (by omega)).trans ((MR_out (by decide) (by omega)).trans ((MR_out (by decide) (by omega)).trans ((MR_out (by decide) (by omega)).trans ((MR_out (by decide) (by omega)).trans ((MR_out (by decide) (by omega)).trans ((MR_out (by decide) (by omega)).trans ((MR_out (by decide) (by omega)).trans ((MR_out (by decide) (by omega)).trans ((MR_out (by decide) (by omega)).trans ((MR_out (by decide) (by omega)).trans ((MR_out (by decide) (by omega)).trans ((MR_in hk).trans ?_)))))))))))))
    rw [MR_b (b := 121) (by decide) (by decide), MR_b (b := 121) (by decide) (by decide)]
    rw [earr 121 (by decide) (by decide) (by decide)]
  have a3 : ∀ k, k < 96 → mvA I o 122 k = if o = 0 then I 122 k else I 139 (244 + k) := fun k hk => by
    unfold mvA
    rw [MR_b (b := 122) (by decide) (by decide), MR_b (b := 122) (by decide) (by decide), MR_b (b := 122) (by decide) (by decide), MR_b (b := 122) (by decide) (by decide), MR_b (b := 122) (by decide) (by decide), MR_b (b := 122) (by decide) (by decide), MR_b (b := 122) (by decide) (by decide), MR_b (b := 122) (by decide) (by decide), MR_b (b := 122) (by decide) (by decide), MR_b (b := 122) (by decide) (by decide), MR_b (b := 122) (by decide) (by decide), MR_b (b := 122) (by decide) (by decide)]
    rw [MR_w (by decide) hk]
    rw [MR_b (b := 122) (by decide) (by decide), MR_b (b := 122) (by decide) (by decide), MR_b (b := 122) (by decide) (by decide)]
    rw [earr 122 (by decide) (by decide) (by decide)]
    congr 1
    exact (MR_out (by decide) (by omega)).trans ((MR_out (by decide) (by omega)).trans ((MR_out (by decide) (by omega)).trans (e139 _ (by omega))))
  have b3 : ∀ k, k < 96 → mvA I o 139 (244 + k) = I 122 k := fun k hk => by
    unfold mvA
    refine (MR_out (by decide) (by omega)).trans ((MR_out (by decide) (by omega)).trans ((MR_out (by decide) (by omega)).trans ((MR_out (by decide) (by omega)).trans ((MR_out (by decide) (by omega)).trans ((MR_out (by decide) (by omega)).trans ((MR_out (by decide) (by omega)).trans ((MR_out (by decide) (by omega)).trans ((MR_out (by decide) (by omega)).trans ((MR_out (by decide) (by omega)).trans ((MR_out (by decide) (by omega)).trans ((MR_out (by decide) (by omega)).trans ((MR_in hk).trans ?_))))))))))))
    rw [MR_b (b := 122) (by decide) (by decide), MR_b (b := 122) (by decide) (by decide), MR_b (b := 122) (by decide) (by decide)]
    rw [earr 122 (by decide) (by decide) (by decide)]
  have a4 : ∀ k, k < 96 → mvA I o 123 k = if o = 0 then I 123 k else I 139 (340 + k) := fun k hk => by
    unfold mvA
    rw [MR_b (b := 123) (by decide) (by decide), MR_b (b := 123) (by decide) (by decide), MR_b (b := 123) (by decide) (by decide), MR_b (b := 123) (by decide) (by decide), MR_b (b := 123) (by decide) (by decide), MR_b (b := 123) (by decide) (by decide), MR_b (b := 123) (by decide) (by decide), MR_b (b := 123) (by decide) (by decide), MR_b (b := 123) (by decide) (by decide), MR_b (b := 123) (by decide) (by decide), MR_b (b := 123) (by decide) (by decide)]
    rw [MR_w (by decide) hk]
    rw [MR_b (b := 123) (by decide) (by decide), MR_b (b := 123) (by decide) (by decide), MR_b (b := 123) (by decide) (by decide), MR_b (b := 123) (by decide) (by decide)]
    rw [earr 123 (by decide) (by decide) (by decide)]
    congr 1
    exact (MR_out (by decide) (by omega)).trans ((MR_out (by decide) (by omega)).trans ((MR_out (by decide) (by omega)).trans ((MR_out (by decide) (by omega)).trans (e139 _ (by omega)))))
  have b4 : ∀ k, k < 96 → mvA I o 139 (340 + k) = I 123 k := fun k hk => by
    unfold mvA
    refine (MR_out (by decide) (by omega)).trans ((MR_out (by decide) (by omega)).trans ((MR_out (by decide) (by omega)).trans ((MR_out (by decide) (by omega)).trans ((MR_out (by decide) (by omega)).trans ((MR_out (by decide) (by omega)).trans ((MR_out (by decide) (by omega)).trans ((MR_out (by decide) (by omega)).trans ((MR_out (by decide) (by omega)).trans ((MR_out (by decide) (by omega)).trans ((MR_out (by decide) (by omega)).trans ((MR_in hk).trans ?_)))))))))))
    rw [MR_b (b := 123) (by decide) (by decide), MR_b (b := 123) (by decide) (by decide), MR_b (b := 123) (by decide) (by decide), MR_b (b := 123) (by decide) (by decide)]
    rw [earr 123 (by decide) (by decide) (by decide)]
  have a5 : ∀ k, k < 8 → mvA I o 124 k = if o = 0 then I 124 k else I 139 (436 + k) := fun k hk => by
    unfold mvA
    rw [MR_b (b := 124) (by decide) (by decide), MR_b (b := 124) (by decide) (by decide), MR_b (b := 124) (by decide) (by decide), MR_b (b := 124) (by decide) (by decide), MR_b (b := 124) (by decide) (by decide), MR_b (b := 124) (by decide) (by decide), MR_b (b := 124) (by decide) (by decide), MR_b (b := 124) (by decide) (by decide), MR_b (b := 124) (by decide) (by decide), MR_b (b := 124) (by decide) (by decide)]
    rw [MR_w (by decide) hk]
    rw [MR_b (b := 124) (by decide) (by decide), MR_b (b := 124) (by decide) (by decide), MR_b (b := 124) (by decide) (by decide), MR_b (b := 124) (by decide) (by decide), MR_b (b := 124) (by decide) (by decide)]
    rw [earr 124 (by decide) (by decide) (by decide)]
    congr 1
    exact (MR_out (by decide) (by omega)).trans ((MR_out (by decide) (by omega)).trans ((MR_out (by decide) (by omega)).trans ((MR_out (by decide) (by omega)).trans ((MR_out (by decide) (by omega)).trans (e139 _ (by omega))))))
  have b5 : ∀ k, k < 8 → mvA I o 139 (436 + k) = I 124 k := fun k hk => by
    unfold mvA
    refine (MR_out (by decide) (by omega)).trans ((MR_out (by decide) (by omega)).trans ((MR_out (by decide) (by omega)).trans ((MR_out (by decide) (by omega)).trans ((MR_out (by decide) (by omega)).trans ((MR_out (by decide) (by omega)).trans ((MR_out (by decide) (by omega)).trans ((MR_out (by decide) (by omega)).trans ((MR_out (by decide) (by omega)).trans ((MR_out (by decide) (by omega)).trans ((MR_in hk).trans ?_))))))))))
    rw [MR_b (b := 124) (by decide) (by decide), MR_b (b := 124) (by decide) (by decide), MR_b (b := 124) (by decide) (by decide), MR_b (b := 124) (by decide) (by decide), MR_b (b := 124) (by decide) (by decide)]
    rw [earr 124 (by decide) (by decide) (by decide)]
  have a6 : ∀ k, k < 8 → mvA I o 125 k = if o = 0 then I 125 k else I 139 (444 + k) := fun k hk => by
    unfold mvA
    rw [MR_b (b := 125) (by decide) (by decide), MR_b (b := 125) (by decide) (by decide), MR_b (b := 125) (by decide) (by decide), MR_b (b := 125) (by decide) (by decide), MR_b (b := 125) (by decide) (by decide), MR_b (b := 125) (by decide) (by decide), MR_b (b := 125) (by decide) (by decide), MR_b (b := 125) (by decide) (by decide), MR_b (b := 125) (by decide) (by decide)]
    rw [MR_w (by decide) hk]
    rw [MR_b (b := 125) (by decide) (by decide), MR_b (b := 125) (by decide) (by decide), MR_b (b := 125) (by decide) (by decide), MR_b (b := 125) (by decide) (by decide), MR_b (b := 125) (by decide) (by decide), MR_b (b := 125) (by decide) (by decide)]
    rw [earr 125 (by decide) (by decide) (by decide)]
    congr 1
    exact (MR_out (by decide) (by omega)).trans ((MR_out (by decide) (by omega)).trans ((MR_out (by decide) (by omega)).trans ((MR_out (by decide) (by omega)).trans ((MR_out (by decide) (by omega)).trans ((MR_out (by decide) (by omega)).trans (e139 _ (by omega)))))))
  have b6 : ∀ k, k < 8 → mvA I o 139 (444 + k) = I 125 k := fun k hk => by
    unfold mvA
    refine (MR_out (by decide) (by omega)).trans ((MR_out (by decide) (by omega)).trans ((MR_out (by decide) (by omega)).trans ((MR_out (by decide) (by omega)).trans ((MR_out (by decide) (by omega)).trans ((MR_out (by decide) (by omega)).trans ((MR_out (by decide) (by omega)).trans ((MR_out (by decide) (by omega)).trans ((MR_out (by decide) (by omega)).trans ((MR_in hk).trans ?_)))))))))
    rw [MR_b (b := 125) (by decide) (by decide), MR_b (b := 125) (by decide) (by decide), MR_b (b := 125) (by decide) (by decide), MR_b (b := 125) (by decide) (by decide), MR_b (b := 125) (by decide) (by decide), MR_b (b := 125) (by decide) (by decide)]
    rw [earr 125 (by decide) (by decide) (by decide)]
  have a7 : ∀ k, k < 16 → mvA I o 126 k = if o = 0 then I 126 k else I 139 (452 + k) := fun k hk => by
    unfold mvA
    rw [MR_b (b := 126) (by decide) (by decide), MR_b (b := 126) (by decide) (by decide), MR_b (b := 126) (by decide) (by decide), MR_b (b := 126) (by decide) (by decide), MR_b (b := 126) (by decide) (by decide), MR_b (b := 126) (by decide) (by decide), MR_b (b := 126) (by decide) (by decide), MR_b (b := 126) (by decide) (by decide)]
    rw [MR_w (by decide) hk]
    rw [MR_b (b := 126) (by decide) (by decide), MR_b (b := 126) (by decide) (by decide), MR_b (b := 126) (by decide) (by decide), MR_b (b := 126) (by decide) (by decide), MR_b (b := 126) (by decide) (by decide), MR_b (b := 126) (by decide) (by decide), MR_b (b := 126) (by decide) (by decide)]
    rw [earr 126 (by decide) (by decide) (by decide)]
    congr 1
    exact (MR_out (by decide) (by omega)).trans ((MR_out (by decide) (by omega)).trans ((MR_out (by decide) (by omega)).trans ((MR_out (by decide) (by omega)).trans ((MR_out (by decide) (by omega)).trans ((MR_out (by decide) (by omega)).trans ((MR_out (by decide) (by omega)).trans (e139 _ (by omega))))))))
  have b7 : ∀ k, k < 16 → mvA I o 139 (452 + k) = I 126 k := fun k hk => by
    unfold mvA
    refine (MR_out (by decide) (by omega)).trans ((MR_out (by decide) (by omega)).trans ((MR_out (by decide) (by omega)).trans ((MR_out (by decide) (by omega)).trans ((MR_out (by decide) (by omega)).trans ((MR_out (by decide) (by omega)).trans ((MR_out (by decide) (by omega)).trans ((MR_out (by decide) (by omega)).trans ((MR_in hk).trans ?_))))))))
    rw [MR_b (b := 126) (by decide) (by decide), MR_b (b := 126) (by decide) (by decide), MR_b (b := 126) (by decide) (by decide), MR_b (b := 126) (by decide) (by decide), MR_b (b := 126) (by decide) (by decide), MR_b (b := 126) (by decide) (by decide), MR_b (b := 126) (by decide) (by decide)]
    rw [earr 126 (by decide) (by decide) (by decide)]
  have a8 : ∀ k, k < 16 → mvA I o 127 k = if o = 0 then I 127 k else I 139 (468 + k) := fun k hk => by
    unfold mvA
    rw [MR_b (b := 127) (by decide) (by decide), MR_b (b := 127) (by decide) (by decide), MR_b (b := 127) (by decide) (by decide), MR_b (b := 127) (by decide) (by decide), MR_b (b := 127) (by decide) (by decide), MR_b (b := 127) (by decide) (by decide), MR_b (b := 127) (by decide) (by decide)]
    rw [MR_w (by decide) hk]
    rw [MR_b (b := 127) (by decide) (by decide), MR_b (b := 127) (by decide) (by decide), MR_b (b := 127) (by decide) (by decide), MR_b (b := 127) (by decide) (by decide), MR_b (b := 127) (by decide) (by decide), MR_b (b := 127) (by decide) (by decide), MR_b (b := 127) (by decide) (by decide), MR_b (b := 127) (by decide) (by decide)]
    rw [earr 127 (by decide) (by decide) (by decide)]
    congr 1
    exact (MR_out (by decide) (by omega)).trans ((MR_out (by decide) (by omega)).trans ((MR_out (by decide) (by omega)).trans ((MR_out (by decide) (by omega)).trans ((MR_out (by decide) (by omega)).trans ((MR_out (by decide) (by omega)).trans ((MR_out (by decide) (by omega)).trans ((MR_out (by decide) (by omega)).trans (e139 _ (by omega)))))))))
  have b8 : ∀ k, k < 16 → mvA I o 139 (468 + k) = I 127 k := fun k hk => by
    unfold mvA
    refine (MR_out (by decide) (by omega)).trans ((MR_out (by decide) (by omega)).trans ((MR_out (by decide) (by omega)).trans ((MR_out (by decide) (by omega)).trans ((MR_out (by decide) (by omega)).trans ((MR_out (by decide) (by omega)).trans ((MR_out (by decide) (by omega)).trans ((MR_in hk).trans ?_)))))))
    rw [MR_b (b := 127) (by decide) (by decide), MR_b (b := 127) (by decide) (by decide), MR_b (b := 127) (by decide) (by decide), MR_b (b := 127) (by decide) (by decide), MR_b (b := 127) (by decide) (by decide), MR_b (b := 127) (by decide) (by decide), MR_b (b := 127) (by decide) (by decide), MR_b (b := 127) (by decide) (by decide)]
    rw [earr 127 (by decide) (by decide) (by decide)]
  have a9 : ∀ k, k < 40 → mvA I o 128 k = if o = 0 then I 128 k else I 139 (484 + k) := fun k hk => by
    unfold mvA
    rw [MR_b (b := 128) (by decide) (by decide), MR_b (b := 128) (by decide) (by decide), MR_b (b := 128) (by decide) (by decide), MR_b (b := 128) (by decide) (by decide), MR_b (b := 128) (by decide) (by decide), MR_b (b := 128) (by decide) (by decide)]
    rw [MR_w (by decide) hk]
    rw [MR_b (b := 128) (by decide) (by decide), MR_b (b := 128) (by decide) (by decide), MR_b (b := 128) (by decide) (by decide), MR_b (b := 128) (by decide) (by decide), MR_b (b := 128) (by decide) (by decide), MR_b (b := 128) (by decide) (by decide), MR_b (b := 128) (by decide) (by decide), MR_b (b := 128) (by decide) (by decide), MR_b (b := 128) (by decide) (by decide)]
    rw [earr 128 (by decide) (by decide) (by decide)]
    congr 1
    exact (MR_out (by decide) (by omega)).trans ((MR_out (by decide) (by omega)).trans ((MR_out (by decide) (by omega)).trans ((MR_out (by decide) (by omega)).trans ((MR_out (by decide) (by omega)).trans ((MR_out (by decide) (by omega)).trans ((MR_out (by decide) (by omega)).trans ((MR_out (by decide) (by omega)).trans ((MR_out (by decide) (by omega)).trans (e139 _ (by omega))))))))))
  have b9 : ∀ k, k < 40 → mvA I o 139 (484 + k) = I 128 k := fun k hk => by
    unfold mvA
    refine (MR_out (by decide) (by omega)).trans ((MR_out (by decide) (by omega)).trans ((MR_out (by decide) (by omega)).trans ((MR_out (by decide) (by omega)).trans ((MR_out (by decide) (by omega)).trans ((MR_out (by decide) (by omega)).trans ((MR_in hk).trans ?_))))))
    rw [MR_b (b := 128) (by decide) (by decide), MR_b (b := 128) (by decide) (by decide), MR_b (b := 128) (by decide) (by decide), MR_b (b := 128) (by decide) (by decide), MR_b (b := 128) (by decide) (by decide), MR_b (b := 128) (by decide) (by decide), MR_b (b := 128) (by decide) (by decide), MR_b (b := 128) (by decide) (by decide), MR_b (b := 128) (by decide) (by decide)]
    rw [earr 128 (by decide) (by decide) (by decide)]
  have a10 : ∀ k, k < 60 → mvA I o 129 k = if o = 0 then I 129 k else I 139 (524 + k) := fun k hk => by
    unfold mvA
    rw [MR_b (b := 129) (by decide) (by decide), MR_b (b := 129) (by decide) (by decide), MR_b (b := 129) (by decide) (by decide), MR_b (b := 129) (by decide) (by decide), MR_b (b := 129) (by decide) (by decide)]
    rw [MR_w (by decide) hk]
    rw [MR_b (b := 129) (by decide) (by decide), MR_b (b := 129) (by decide) (by decide), MR_b (b := 129) (by decide) (by decide), MR_b (b := 129) (by decide) (by decide), MR_b (b := 129) (by decide) (by decide), MR_b (b := 129) (by decide) (by decide), MR_b (b := 129) (by decide) (by decide), MR_b (b := 129) (by decide) (by decide), MR_b (b := 129) (by decide) (by decide), MR_b (b := 129) (by decide) (by decide)]
    rw [earr 129 (by decide) (by decide) (by decide)]
    congr 1
    exact (MR_out (by decide) (by omega)).trans ((MR_out (by decide) (by omega)).trans ((MR_out (by decide) (by omega)).trans ((MR_out (by decide) (by omega)).trans ((MR_out (by decide) (by omega)).trans ((MR_out (by decide) (by omega)).trans ((MR_out (by decide) (by omega)).trans ((MR_out (by decide) (by omega)).trans ((MR_out (by decide) (by omega)).trans ((MR_out (by decide) (by omega)).trans (e139 _ (by omega)))))))))))
  have b10 : ∀ k, k < 60 → mvA I o 139 (524 + k) = I 129 k := fun k hk => by
    unfold mvA
    refine (MR_out (by decide) (by omega)).trans ((MR_out (by decide) (by omega)).trans ((MR_out (by decide) (by omega)).trans ((MR_out (by decide) (by omega)).trans ((MR_out (by decide) (by omega)).trans ((MR_in hk).trans ?_)))))
    rw [MR_b (b := 129) (by decide) (by decide), MR_b (b := 129) (by decide) (by decide), MR_b (b := 129) (by decide) (by decide), MR_b (b := 129) (by decide) (by decide), MR_b (b := 129) (by decide) (by decide), MR_b (b := 129) (by decide) (by decide), MR_b (b := 129) (by decide) (by decide), MR_b (b := 129) (by decide) (by decide), MR_b (b := 129) (by decide) (by decide), MR_b (b := 129) (by decide) (by decide)]
    rw [earr 129 (by decide) (by decide) (by decide)]
  have a11 : ∀ k, k < 60 → mvA I o 130 k = if o = 0 then I 130 k else I 139 (584 + k) := fun k hk => by
    unfold mvA
    rw [MR_b (b := 130) (by decide) (by decide), MR_b (b := 130) (by decide) (by decide), MR_b (b := 130) (by decide) (by decide), MR_b (b := 130) (by decide) (by decide)]
    rw [MR_w (by decide) hk]
    rw [MR_b (b := 130) (by decide) (by decide), MR_b (b := 130) (by decide) (by decide), MR_b (b := 130) (by decide) (by decide), MR_b (b := 130) (by decide) (by decide), MR_b (b := 130) (by decide) (by decide), MR_b (b := 130) (by decide) (by decide), MR_b (b := 130) (by decide) (by decide), MR_b (b := 130) (by decide) (by decide), MR_b (b := 130) (by decide) (by decide), MR_b (b := 130) (by decide) (by decide), MR_b (b := 130) (by decide) (by decide)]
    rw [earr 130 (by decide) (by decide) (by decide)]
    congr 1
    exact (MR_out (by decide) (by omega)).trans ((MR_out (by decide) (by omega)).trans ((MR_out (by decide) (by omega)).trans ((MR_out (by decide) (by omega)).trans ((MR_out (by decide) (by omega)).trans ((MR_out (by decide) (by omega)).trans ((MR_out (by decide) (by omega)).trans ((MR_out (by decide) (by omega)).trans ((MR_out (by decide) (by omega)).trans ((MR_out (by decide) (by omega)).trans ((MR_out (by decide) (by omega)).trans (e139 _ (by omega))))))))))))
  have b11 : ∀ k, k < 60 → mvA I o 139 (584 + k) = I 130 k := fun k hk => by
    unfold mvA
    refine (MR_out (by decide) (by omega)).trans ((MR_out (by decide) (by omega)).trans ((MR_out (by decide) (by omega)).trans ((MR_out (by decide) (by omega)).trans ((MR_in hk).trans ?_))))
    rw [MR_b (b := 130) (by decide) (by decide), MR_b (b := 130) (by decide) (by decide), MR_b (b := 130) (by decide) (by decide), MR_b (b := 130) (by decide) (by decide), MR_b (b := 130) (by decide) (by decide), MR_b (b := 130) (by decide) (by decide), MR_b (b := 130) (by decide) (by decide), MR_b (b := 130) (by decide) (by decide), MR_b (b := 130) (by decide) (by decide), MR_b (b := 130) (by decide) (by decide), MR_b (b := 130) (by decide) (by decide)]
    rw [earr 130 (by decide) (by decide) (by decide)]
  have a12 : ∀ k, k < 128 → mvA I o 131 k = if o = 0 then I 131 k else I 139 (644 + k) := fun k hk => by
    unfold mvA
    rw [MR_b (b := 131) (by decide) (by decide), MR_b (b := 131) (by decide) (by decide), MR_b (b := 131) (by decide) (by decide)]
    rw [MR_w (by decide) hk]
    rw [MR_b (b := 131) (by decide) (by decide), MR_b (b := 131) (by decide) (by decide), MR_b (b := 131) (by decide) (by decide), MR_b (b := 131) (by decide) (by decide), MR_b (b := 131) (by decide) (by decide), MR_b (b := 131) (by decide) (by decide), MR_b (b := 131) (by decide) (by decide), MR_b (b := 131) (by decide) (by decide), MR_b (b := 131) (by decide) (by decide), MR_b (b := 131) (by decide) (by decide), MR_b (b := 131) (by decide) (by decide), MR_b (b := 131) (by decide) (by decide)]
    rw [earr 131 (by decide) (by decide) (by decide)]
    congr 1
    exact (MR_out (by decide) (by omega)).trans ((MR_out (by decide) (by omega)).trans ((MR_out (by decide) (by omega)).trans ((MR_out (by decide) (by omega)).trans ((MR_out (by decide) (by omega)).trans ((MR_out (by decide) (by omega)).trans ((MR_out (by decide) (by omega)).trans ((MR_out (by decide) (by omega)).trans ((MR_out (by decide) (by omega)).trans ((MR_out (by decide) (by omega)).trans ((MR_out (by decide) (by omega)).trans ((MR_out (by decide) (by omega)).trans (e139 _ (by omega)))))))))))))
  have b12 : ∀ k, k < 128 → mvA I o 139 (644 + k) = I 131 k := fun k hk => by
    unfold mvA
    refine (MR_out (by decide) (by omega)).trans ((MR_out (by decide) (by omega)).trans ((MR_out (by decide) (by omega)).trans ((MR_in hk).trans ?_)))
    rw [MR_b (b := 131) (by decide) (by decide), MR_b (b := 131) (by decide) (by decide), MR_b (b := 131) (by decide) (by decide), MR_b (b := 131) (by decide) (by decide), MR_b (b := 131) (by decide) (by decide), MR_b (b := 131) (by decide) (by decide), MR_b (b := 131) (by decide) (by decide), MR_b (b := 131) (by decide) (by decide), MR_b (b := 131) (by decide) (by decide), MR_b (b := 131) (by decide) (by decide), MR_b (b := 131) (by decide) (by decide), MR_b (b := 131) (by decide) (by decide)]
    rw [earr 131 (by decide) (by decide) (by decide)]
  have a13 : ∀ k, k < 40 → mvA I o 132 k = if o = 0 then I 132 k else I 139 (772 + k) := fun k hk => by
    unfold mvA
    rw [MR_b (b := 132) (by decide) (by decide), MR_b (b := 132) (by decide) (by decide)]
    rw [MR_w (by decide) hk]
    rw [MR_b (b := 132) (by decide) (by decide), MR_b (b := 132) (by decide) (by decide), MR_b (b := 132) (by decide) (by decide), MR_b (b := 132) (by decide) (by decide), MR_b (b := 132) (by decide) (by decide), MR_b (b := 132) (by decide) (by decide), MR_b (b := 132) (by decide) (by decide), MR_b (b := 132) (by decide) (by decide), MR_b (b := 132) (by decide) (by decide), MR_b (b := 132) (by decide) (by decide), MR_b (b := 132) (by decide) (by decide), MR_b (b := 132) (by decide) (by decide), MR_b (b := 132) (by decide) (by decide)]
    rw [earr 132 (by decide) (by decide) (by decide)]
    congr 1
    exact (MR_out (by decide) (by omega)).trans ((MR_out (by decide) (by omega)).trans ((MR_out (by decide) (by omega)).trans ((MR_out (by decide) (by omega)).trans ((MR_out (by decide) (by omega)).trans ((MR_out (by decide) (by omega)).trans ((MR_out (by decide) (by omega)).trans ((MR_out (by decide) (by omega)).trans ((MR_out (by decide) (by omega)).trans ((MR_out (by decide) (by omega)).trans ((MR_out (by decide) (by omega)).trans ((MR_out (by decide) (by omega)).trans ((MR_out (by decide) (by omega)).trans (e139 _ (by omega))))))))))))))
  have b13 : ∀ k, k < 40 → mvA I o 139 (772 + k) = I 132 k := fun k hk => by
    unfold mvA
    refine (MR_out (by decide) (by omega)).trans ((MR_out (by decide) (by omega)).trans ((MR_in hk).trans ?_))
    rw [MR_b (b := 132) (by decide) (by decide), MR_b (b := 132) (by decide) (by decide), MR_b (b := 132) (by decide) (by decide), MR_b (b := 132) (by decide) (by decide), MR_b (b := 132) (by decide) (by decide), MR_b (b := 132) (by decide) (by decide), MR_b (b := 132) (by decide) (by decide), MR_b (b := 132) (by decide) (by decide), MR_b (b := 132) (by decide) (by decide), MR_b (b := 132) (by decide) (by decide), MR_b (b := 132) (by decide) (by decide), MR_b (b := 132) (by decide) (by decide), MR_b (b := 132) (by decide) (by decide)]
    rw [earr 132 (by decide) (by decide) (by decide)]
  have a14 : ∀ k, k < 96 → mvA I o 134 k = if o = 0 then I 134 k else I 139 (812 + k) := fun k hk => by
    unfold mvA
    rw [MR_b (b := 134) (by decide) (by decide)]
    rw [MR_w (by decide) hk]
    rw [MR_b (b := 134) (by decide) (by decide), MR_b (b := 134) (by decide) (by decide), MR_b (b := 134) (by decide) (by decide), MR_b (b := 134) (by decide) (by decide), MR_b (b := 134) (by decide) (by decide), MR_b (b := 134) (by decide) (by decide), MR_b (b := 134) (by decide) (by decide), MR_b (b := 134) (by decide) (by decide), MR_b (b := 134) (by decide) (by decide), MR_b (b := 134) (by decide) (by decide), MR_b (b := 134) (by decide) (by decide), MR_b (b := 134) (by decide) (by decide), MR_b (b := 134) (by decide) (by decide), MR_b (b := 134) (by decide) (by decide)]
    rw [earr 134 (by decide) (by decide) (by decide)]
    congr 1
    exact (MR_out (by decide) (by omega)).trans ((MR_out (by decide) (by omega)).trans ((MR_out (by decide) (by omega)).trans ((MR_out (by decide) (by omega)).trans ((MR_out (by decide) (by omega)).trans ((MR_out (by decide) (by omega)).trans ((MR_out (by decide) (by omega)).trans ((MR_out (by decide) (by omega)).trans ((MR_out (by decide) (by omega)).trans ((MR_out (by decide) (by omega)).trans ((MR_out (by decide) (by omega)).trans ((MR_out (by decide) (by omega)).trans ((MR_out (by decide) (by omega)).trans ((MR_out (by decide) (by omega)).trans (e139 _ (by omega)))))))))))))))
  have b14 : ∀ k, k < 96 → mvA I o 139 (812 + k) = I 134 k := fun k hk => by
    unfold mvA
    refine (MR_out (by decide) (by omega)).trans ((MR_in hk).trans ?_)
    rw [MR_b (b := 134) (by decide) (by decide), MR_b (b := 134) (by decide) (by decide), MR_b (b := 134) (by decide) (by decide), MR_b (b := 134) (by decide) (by decide), MR_b (b := 134) (by decide) (by decide), MR_b (b := 134) (by decide) (by decide), MR_b (b := 134) (by decide) (by decide), MR_b (b := 134) (by decide) (by decide), MR_b (b := 134) (by decide) (by decide), MR_b (b := 134) (by decide) (by decide), MR_b (b := 134) (by decide) (by decide), MR_b (b := 134) (by decide) (by decide), MR_b (b := 134) (by decide) (by decide), MR_b (b := 134) (by decide) (by decide)]
    rw [earr 134 (by decide) (by decide) (by decide)]
  have a15 : ∀ k, k < 88 → mvA I o 135 k = if o = 0 then I 135 k else I 139 (908 + k) := fun k hk => by
    unfold mvA
    rw [MR_w (by decide) hk]
    rw [MR_b (b := 135) (by decide) (by decide), MR_b (b := 135) (by decide) (by decide), MR_b (b := 135) (by decide) (by decide), MR_b (b := 135) (by decide) (by decide), MR_b (b := 135) (by decide) (by decide), MR_b (b := 135) (by decide) (by decide), MR_b (b := 135) (by decide) (by decide), MR_b (b := 135) (by decide) (by decide), MR_b (b := 135) (by decide) (by decide), MR_b (b := 135) (by decide) (by decide), MR_b (b := 135) (by decide) (by decide), MR_b (b := 135) (by decide) (by decide), MR_b (b := 135) (by decide) (by decide), MR_b (b := 135) (by decide) (by decide), MR_b (b := 135) (by decide) (by decide)]
    rw [earr 135 (by decide) (by decide) (by decide)]
    congr 1
    exact (MR_out (by decide) (by omega)).trans ((MR_out (by decide) (by omega)).trans ((MR_out (by decide) (by omega)).trans ((MR_out (by decide) (by omega)).trans ((MR_out (by decide) (by omega)).trans ((MR_out (by decide) (by omega)).trans ((MR_out (by decide) (by omega)).trans ((MR_out (by decide) (by omega)).trans ((MR_out (by decide) (by omega)).trans ((MR_out (by decide) (by omega)).trans ((MR_out (by decide) (by omega)).trans ((MR_out (by decide) (by omega)).trans ((MR_out (by decide) (by omega)).trans ((MR_out (by decide) (by omega)).trans ((MR_out (by decide) (by omega)).trans (e139 _ (by omega))))))))))))))))
  have b15 : ∀ k, k < 88 → mvA I o 139 (908 + k) = I 135 k := fun k hk => by
    unfold mvA
    refine (MR_in hk).trans ?_
    rw [MR_b (b := 135) (by decide) (by decide), MR_b (b := 135) (by decide) (by decide), MR_b (b := 135) (by decide) (by decide), MR_b (b := 135) (by decide) (by decide), MR_b (b := 135) (by decide) (by decide), MR_b (b := 135) (by decide) (by decide), MR_b (b := 135) (by decide) (by decide), MR_b (b := 135) (by decide) (by decide), MR_b (b := 135) (by decide) (by decide), MR_b (b := 135) (by decide) (by decide), MR_b (b := 135) (by decide) (by decide), MR_b (b := 135) (by decide) (by decide), MR_b (b := 135) (by decide) (by decide), MR_b (b := 135) (by decide) (by decide), MR_b (b := 135) (by decide) (by decide)]
    rw [earr 135 (by decide) (by decide) (by decide)]
  have eMO : mvA I o 102 = sIn (MR (sOut I) 138 16 0 o) 102 := by
    unfold mvA
    rw [MR_b (b := 102) (by decide) (by decide), MR_b (b := 102) (by decide) (by decide), MR_b (b := 102) (by decide) (by decide), MR_b (b := 102) (by decide) (by decide), MR_b (b := 102) (by decide) (by decide), MR_b (b := 102) (by decide) (by decide), MR_b (b := 102) (by decide) (by decide), MR_b (b := 102) (by decide) (by decide), MR_b (b := 102) (by decide) (by decide), MR_b (b := 102) (by decide) (by decide), MR_b (b := 102) (by decide) (by decide), MR_b (b := 102) (by decide) (by decide), MR_b (b := 102) (by decide) (by decide), MR_b (b := 102) (by decide) (by decide), MR_b (b := 102) (by decide) (by decide), MR_b (b := 102) (by decide) (by decide)]
  refine ⟨fun i hi => ?_, fun i hi => ?_, fun j hj => ?_, fun j hj => ?_, fun j hj => ?_, fun b h1 h2 h3 h4 => ?_⟩
  · rcases c16 hi with rfl | rfl | rfl | rfl | rfl | rfl | rfl | rfl | rfl | rfl | rfl | rfl | rfl | rfl | rfl | rfl
    · exact a0
    · exact a1
    · exact a2
    · exact a3
    · exact a4
    · exact a5
    · exact a6
    · exact a7
    · exact a8
    · exact a9
    · exact a10
    · exact a11
    · exact a12
    · exact a13
    · exact a14
    · exact a15
  · rcases c16 hi with rfl | rfl | rfl | rfl | rfl | rfl | rfl | rfl | rfl | rfl | rfl | rfl | rfl | rfl | rfl | rfl
    · exact b0
    · exact b1
    · exact b2
    · exact b3
    · exact b4
    · exact b5
    · exact b6
    · exact b7
    · exact b8
    · exact b9
    · exact b10
    · exact b11
    · exact b12
    · exact b13
    · exact b14
    · exact b15
  · unfold mvA
    refine (MR_out (by decide) (by omega)).trans ((MR_out (by decide) (by omega)).trans ((MR_out (by decide) (by omega)).trans ((MR_out (by decide) (by omega)).trans ((MR_out (by decide) (by omega)).trans ((MR_out (by decide) (by omega)).trans ((MR_out (by decide) (by omega)).trans ((MR_out (by decide) (by omega)).trans ((MR_out (by decide) (by omega)).trans ((MR_out (by decide) (by omega)).trans ((MR_out (by decide) (by omega)).trans ((MR_out (by decide) (by omega)).trans ((MR_out (by decide) (by omega)).trans ((MR_out (by decide) (by omega)).trans ((MR_out (by decide) (by omega)).trans ((MR_out (by decide) (by omega)).trans (?_))))))))))))))))
    rw [sIn_o (by decide)]
    have := MR_in (I := sOut I) (w := 138) (m := 16) (off := 0) (k := j) (o := o) hj
    rw [Nat.zero_add] at this
    exact this.trans (sOut_s hj)
  · rw [eMO, sIn_s hj, MR_w (by decide) hj, sOut_s hj, Nat.zero_add]
    congr 1
  · rw [eMO, sIn_n hj, MR_b (by decide) (by decide), sOut_o (by decide)]
  · unfold mvA
    rw [MR_b (b := b) (by exact h3) (by omega), MR_b (b := b) (by exact h3) (by omega), MR_b (b := b) (by exact h3) (by omega), MR_b (b := b) (by exact h3) (by omega), MR_b (b := b) (by exact h3) (by omega), MR_b (b := b) (by exact h3) (by omega), MR_b (b := b) (by exact h3) (by omega), MR_b (b := b) (by exact h3) (by omega), MR_b (b := b) (by exact h3) (by omega), MR_b (b := b) (by exact h3) (by omega), MR_b (b := b) (by exact h3) (by omega), MR_b (b := b) (by exact h3) (by omega), MR_b (b := b) (by exact h3) (by omega), MR_b (b := b) (by exact h3) (by omega), MR_b (b := b) (by exact h3) (by omega), MR_b (b := b) (by exact h3) (by omega)]
    exact earr b h1 h2 h3
