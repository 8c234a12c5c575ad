/-! the start: the reference's setUp and moveAll, as the constructor's contract has them -/
theorem ML_step {I : IM} {w N off : Nat} {o : Int32} (hw : w ≠ A_other) : up (up (MRk I w 0 N off o) A_other (off + N) (MRk I w 0 N off o w N)) w N (if o = 0 then MRk I w 0 N off o w N else MRk I w 0 N off o A_other (off + N)) = MRk I w 0 (N + 1) off o := by
  have e1 : MRk I w 0 N off o w N = I w N := by
    unfold MRk
    rw [if_neg (fun z => hw z.1), if_neg (fun z => by omega)]
  have e2 : MRk I w 0 N off o A_other (off + N) = I A_other (off + N) := by
    unfold MRk
    rw [if_neg (fun z => by omega), if_neg (fun z => hw z.1.symm)]
  rw [e1, e2]
  funext b j
  by_cases hb : b = A_other
  · subst hb
    rw [up_o (fun q => hw q.symm)]
    by_cases h : j = off + N
    · rw [h, up_self]
      unfold MRk
      rw [if_pos ⟨rfl, by omega, by omega⟩, Nat.add_sub_cancel_left]
    · rw [up_ne (Or.inr h)]
      unfold MRk
      by_cases h2 : off + 0 ≤ j ∧ j < off + N
      · rw [if_pos ⟨rfl, h2⟩, if_pos ⟨rfl, h2.1, by omega⟩]
      · rw [if_neg (fun z => h2 z.2), if_neg (fun z => hw z.1.symm), if_neg (fun z => h2 ⟨z.2.1, by omega⟩), if_neg (fun z => hw z.1.symm)]
  · by_cases hbw : b = w
    · subst hbw
      by_cases h : j = N
      · rw [h, up_self]
        unfold MRk
        rw [if_neg (c := b = A_other ∧ _) (fun z => hb z.1)]
        by_cases ho : o = 0
        · rw [if_pos ho, if_neg (fun z => z.2.2.2 ho)]
        · rw [if_neg ho, if_pos ⟨rfl, Nat.zero_le _, by omega, ho⟩]
      · rw [up_ne (Or.inr h), up_o hb]
        unfold MRk
        rw [if_neg (fun z => hb z.1), if_neg (c := b = A_other ∧ _) (fun z => hb z.1)]
        by_cases h2 : j < N ∧ ¬ o = 0
        · rw [if_pos ⟨rfl, Nat.zero_le _, h2⟩, if_pos ⟨rfl, Nat.zero_le _, by omega, h2.2⟩]
        · rw [if_neg (fun z => h2 z.2.2), if_neg (fun z => h2 ⟨by omega, z.2.2.2⟩)]
    · rw [up_o hbw, up_o hb]
      unfold MRk
      rw [if_neg (fun z => hb z.1), if_neg (fun z => hbw z.1), if_neg (fun z => hb z.1), if_neg (fun z => hbw z.1)]
theorem lp_MR {I : IM} {w off : Nat} {o : Int32} (hw : w ≠ A_other) (ho : off ≤ 996) : ∀ N, N ≤ 200 → lp_Mod_moveRow_3 w (nI off) o I N = MRk I w 0 N off o
  | 0, _ => by
    funext b j
    show I b j = _
    unfold MRk
    rw [if_neg (fun z => by omega), if_neg (fun z => by omega)]
  | N + 1, h => by
    have ea : nI off + nI N = nI (off + N) := by
      unfold nI
      exact (Int32.ofNat_add off N).symm
    rw [← ML_step hw, ← lp_MR hw ho N (by omega)]
    show up (up (lp_Mod_moveRow_3 w (nI off) o I N) A_other (nI off + nI N).toNatClampNeg _) w (nI N).toNatClampNeg _ = _
    rw [ea, nkc (by omega), nkc (by omega), up_o hw]
theorem sm_MR {I : IM} {w m off : Nat} {o mm ff : Int32} (hw : w ≠ A_other) (ho : off ≤ 996) (hm : m ≤ 200) (hf : ff = nI off) : s_Mod_moveRow I w mm ff o m off = MR I w m off o := by
  subst hf
  exact lp_MR hw ho m hm
theorem sMA {I : IM} {o : Int32} : s_Mod_moveAll I o = mvA I o := by
  have q0 : I 102 = I 102 := rfl
  obtain ⟨J1, h1⟩ : ∃ z, z = mv_1 I o := ⟨_, rfl⟩
  have e1 : J1 = up I 138 0 (I 102 34) := by rw [h1]; show up I 138 0 (I 102 34) = _; rw [q0]
  have q1 : J1 102 = I 102 := (show J1 102 = I 102 from by rw [e1, fu (by decide)]).trans q0
  obtain ⟨J2, h2⟩ : ∃ z, z = mv_2 J1 o := ⟨_, rfl⟩
  have e2 : J2 = up J1 138 1 (I 102 42) := by rw [h2]; show up J1 138 1 (J1 102 42) = _; rw [q1]
  have q2 : J2 102 = I 102 := (show J2 102 = J1 102 from by rw [e2, fu (by decide)]).trans q1
  obtain ⟨J3, h3⟩ : ∃ z, z = mv_3 J2 o := ⟨_, rfl⟩
  have e3 : J3 = up J2 138 2 (I 102 43) := by rw [h3]; show up J2 138 2 (J2 102 43) = _; rw [q2]
  have q3 : J3 102 = I 102 := (show J3 102 = J2 102 from by rw [e3, fu (by decide)]).trans q2
  obtain ⟨J4, h4⟩ : ∃ z, z = mv_4 J3 o := ⟨_, rfl⟩
  have e4 : J4 = up J3 138 3 (I 102 44) := by rw [h4]; show up J3 138 3 (J3 102 44) = _; rw [q3]
  have q4 : J4 102 = I 102 := (show J4 102 = J3 102 from by rw [e4, fu (by decide)]).trans q3
  obtain ⟨J5, h5⟩ : ∃ z, z = mv_5 J4 o := ⟨_, rfl⟩
  have e5 : J5 = up J4 138 4 (I 102 45) := by rw [h5]; show up J4 138 4 (J4 102 45) = _; rw [q4]
  have q5 : J5 102 = I 102 := (show J5 102 = J4 102 from by rw [e5, fu (by decide)]).trans q4
  obtain ⟨J6, h6⟩ : ∃ z, z = mv_6 J5 o := ⟨_, rfl⟩
  have e6 : J6 = up J5 138 5 (I 102 48) := by rw [h6]; show up J5 138 5 (J5 102 48) = _; rw [q5]
  have q6 : J6 102 = I 102 := (show J6 102 = J5 102 from by rw [e6, fu (by decide)]).trans q5
  obtain ⟨J7, h7⟩ : ∃ z, z = mv_7 J6 o := ⟨_, rfl⟩
  have e7 : J7 = up J6 138 6 (I 102 50) := by rw [h7]; show up J6 138 6 (J6 102 50) = _; rw [q6]
  have q7 : J7 102 = I 102 := (show J7 102 = J6 102 from by rw [e7, fu (by decide)]).trans q6
  obtain ⟨J8, h8⟩ : ∃ z, z = mv_8 J7 o := ⟨_, rfl⟩
  have e8 : J8 = up J7 138 7 (I 102 51) := by rw [h8]; show up J7 138 7 (J7 102 51) = _; rw [q7]
  have q8 : J8 102 = I 102 := (show J8 102 = J7 102 from by rw [e8, fu (by decide)]).trans q7
  obtain ⟨J9, h9⟩ : ∃ z, z = mv_9 J8 o := ⟨_, rfl⟩
  have e9 : J9 = up J8 138 8 (I 102 52) := by rw [h9]; show up J8 138 8 (J8 102 52) = _; rw [q8]
  have q9 : J9 102 = I 102 := (show J9 102 = J8 102 from by rw [e9, fu (by decide)]).trans q8
  obtain ⟨J10, h10⟩ : ∃ z, z = mv_10 J9 o := ⟨_, rfl⟩
  have e10 : J10 = up J9 138 9 (I 102 53) := by rw [h10]; show up J9 138 9 (J9 102 53) = _; rw [q9]
  have q10 : J10 102 = I 102 := (show J10 102 = J9 102 from by rw [e10, fu (by decide)]).trans q9
  obtain ⟨J11, h11⟩ : ∃ z, z = mv_11 J10 o := ⟨_, rfl⟩
  have e11 : J11 = up J10 138 10 (I 102 54) := by rw [h11]; show up J10 138 10 (J10 102 54) = _; rw [q10]
  have q11 : J11 102 = I 102 := (show J11 102 = J10 102 from by rw [e11, fu (by decide)]).trans q10
  obtain ⟨J12, h12⟩ : ∃ z, z = mv_12 J11 o := ⟨_, rfl⟩
  have e12 : J12 = up J11 138 11 (I 102 55) := by rw [h12]; show up J11 138 11 (J11 102 55) = _; rw [q11]
  have q12 : J12 102 = I 102 := (show J12 102 = J11 102 from by rw [e12, fu (by decide)]).trans q11
  obtain ⟨J13, h13⟩ : ∃ z, z = mv_13 J12 o := ⟨_, rfl⟩
  have e13 : J13 = up J12 138 12 (I 102 58) := by rw [h13]; show up J12 138 12 (J12 102 58) = _; rw [q12]
  have q13 : J13 102 = I 102 := (show J13 102 = J12 102 from by rw [e13, fu (by decide)]).trans q12
  obtain ⟨J14, h14⟩ : ∃ z, z = mv_14 J13 o := ⟨_, rfl⟩
  have e14 : J14 = up J13 138 13 (I 102 59) := by rw [h14]; show up J13 138 13 (J13 102 59) = _; rw [q13]
  have q14 : J14 102 = I 102 := (show J14 102 = J13 102 from by rw [e14, fu (by decide)]).trans q13
  obtain ⟨J15, h15⟩ : ∃ z, z = mv_15 J14 o := ⟨_, rfl⟩
  have e15 : J15 = up J14 138 14 (I 102 63) := by rw [h15]; show up J14 138 14 (J14 102 63) = _; rw [q14]
  have q15 : J15 102 = I 102 := (show J15 102 = J14 102 from by rw [e15, fu (by decide)]).trans q14
  obtain ⟨J16, h16⟩ : ∃ z, z = mv_16 J15 o := ⟨_, rfl⟩
  have e16 : J16 = up J15 138 15 (I 102 66) := by rw [h16]; show up J15 138 15 (J15 102 66) = _; rw [q15]
  have q16 : J16 102 = I 102 := (show J16 102 = J15 102 from by rw [e16, fu (by decide)]).trans q15
  have eo : J16 = sOut I := by rw [e16, e15, e14, e13, e12, e11, e10, e9, e8, e7, e6, e5, e4, e3, e2, e1]; rfl
  obtain ⟨J17, h17⟩ : ∃ z, z = mv_17 J16 o := ⟨_, rfl⟩
  have e17 : J17 = MR (sOut I) 138 16 0 o := by rw [h17, eo]; exact sm_MR (w := 138) (m := 16) (off := 0) (by decide) (by decide) (by decide) rfl
  have r17 : J17 138 = J17 138 := rfl
  obtain ⟨J18, h18⟩ : ∃ z, z = mv_18 J17 o := ⟨_, rfl⟩
  have e18 : J18 = up J17 102 34 (J17 138 0) := by rw [h18]; show up J17 102 34 (J17 138 0) = _; rw [r17]
  have r18 : J18 138 = J17 138 := (show J18 138 = J17 138 from by rw [e18, fu (by decide)]).trans r17
  obtain ⟨J19, h19⟩ : ∃ z, z = mv_19 J18 o := ⟨_, rfl⟩
  have e19 : J19 = up J18 102 42 (J17 138 1) := by rw [h19]; show up J18 102 42 (J18 138 1) = _; rw [r18]
  have r19 : J19 138 = J17 138 := (show J19 138 = J18 138 from by rw [e19, fu (by decide)]).trans r18
  obtain ⟨J20, h20⟩ : ∃ z, z = mv_20 J19 o := ⟨_, rfl⟩
  have e20 : J20 = up J19 102 43 (J17 138 2) := by rw [h20]; show up J19 102 43 (J19 138 2) = _; rw [r19]
  have r20 : J20 138 = J17 138 := (show J20 138 = J19 138 from by rw [e20, fu (by decide)]).trans r19
  obtain ⟨J21, h21⟩ : ∃ z, z = mv_21 J20 o := ⟨_, rfl⟩
  have e21 : J21 = up J20 102 44 (J17 138 3) := by rw [h21]; show up J20 102 44 (J20 138 3) = _; rw [r20]
  have r21 : J21 138 = J17 138 := (show J21 138 = J20 138 from by rw [e21, fu (by decide)]).trans r20
  obtain ⟨J22, h22⟩ : ∃ z, z = mv_22 J21 o := ⟨_, rfl⟩
  have e22 : J22 = up J21 102 45 (J17 138 4) := by rw [h22]; show up J21 102 45 (J21 138 4) = _; rw [r21]
  have r22 : J22 138 = J17 138 := (show J22 138 = J21 138 from by rw [e22, fu (by decide)]).trans r21
  obtain ⟨J23, h23⟩ : ∃ z, z = mv_23 J22 o := ⟨_, rfl⟩
  have e23 : J23 = up J22 102 48 (J17 138 5) := by rw [h23]; show up J22 102 48 (J22 138 5) = _; rw [r22]
  have r23 : J23 138 = J17 138 := (show J23 138 = J22 138 from by rw [e23, fu (by decide)]).trans r22
  obtain ⟨J24, h24⟩ : ∃ z, z = mv_24 J23 o := ⟨_, rfl⟩
  have e24 : J24 = up J23 102 50 (J17 138 6) := by rw [h24]; show up J23 102 50 (J23 138 6) = _; rw [r23]
  have r24 : J24 138 = J17 138 := (show J24 138 = J23 138 from by rw [e24, fu (by decide)]).trans r23
  obtain ⟨J25, h25⟩ : ∃ z, z = mv_25 J24 o := ⟨_, rfl⟩
  have e25 : J25 = up J24 102 51 (J17 138 7) := by rw [h25]; show up J24 102 51 (J24 138 7) = _; rw [r24]
  have r25 : J25 138 = J17 138 := (show J25 138 = J24 138 from by rw [e25, fu (by decide)]).trans r24
  obtain ⟨J26, h26⟩ : ∃ z, z = mv_26 J25 o := ⟨_, rfl⟩
  have e26 : J26 = up J25 102 52 (J17 138 8) := by rw [h26]; show up J25 102 52 (J25 138 8) = _; rw [r25]
  have r26 : J26 138 = J17 138 := (show J26 138 = J25 138 from by rw [e26, fu (by decide)]).trans r25
  obtain ⟨J27, h27⟩ : ∃ z, z = mv_27 J26 o := ⟨_, rfl⟩
  have e27 : J27 = up J26 102 53 (J17 138 9) := by rw [h27]; show up J26 102 53 (J26 138 9) = _; rw [r26]
  have r27 : J27 138 = J17 138 := (show J27 138 = J26 138 from by rw [e27, fu (by decide)]).trans r26
  obtain ⟨J28, h28⟩ : ∃ z, z = mv_28 J27 o := ⟨_, rfl⟩
  have e28 : J28 = up J27 102 54 (J17 138 10) := by rw [h28]; show up J27 102 54 (J27 138 10) = _; rw [r27]
  have r28 : J28 138 = J17 138 := (show J28 138 = J27 138 from by rw [e28, fu (by decide)]).trans r27
  obtain ⟨J29, h29⟩ : ∃ z, z = mv_29 J28 o := ⟨_, rfl⟩
  have e29 : J29 = up J28 102 55 (J17 138 11) := by rw [h29]; show up J28 102 55 (J28 138 11) = _; rw [r28]
  have r29 : J29 138 = J17 138 := (show J29 138 = J28 138 from by rw [e29, fu (by decide)]).trans r28
  obtain ⟨J30, h30⟩ : ∃ z, z = mv_30 J29 o := ⟨_, rfl⟩
  have e30 : J30 = up J29 102 58 (J17 138 12) := by rw [h30]; show up J29 102 58 (J29 138 12) = _; rw [r29]
  have r30 : J30 138 = J17 138 := (show J30 138 = J29 138 from by rw [e30, fu (by decide)]).trans r29
  obtain ⟨J31, h31⟩ : ∃ z, z = mv_31 J30 o := ⟨_, rfl⟩
  have e31 : J31 = up J30 102 59 (J17 138 13) := by rw [h31]; show up J30 102 59 (J30 138 13) = _; rw [r30]
  have r31 : J31 138 = J17 138 := (show J31 138 = J30 138 from by rw [e31, fu (by decide)]).trans r30
  obtain ⟨J32, h32⟩ : ∃ z, z = mv_32 J31 o := ⟨_, rfl⟩
  have e32 : J32 = up J31 102 63 (J17 138 14) := by rw [h32]; show up J31 102 63 (J31 138 14) = _; rw [r31]
  have r32 : J32 138 = J17 138 := (show J32 138 = J31 138 from by rw [e32, fu (by decide)]).trans r31
  obtain ⟨J33, h33⟩ : ∃ z, z = mv_33 J32 o := ⟨_, rfl⟩
  have e33 : J33 = up J32 102 66 (J17 138 15) := by rw [h33]; show up J32 102 66 (J32 138 15) = _; rw [r32]
  have r33 : J33 138 = J17 138 := (show J33 138 = J32 138 from by rw [e33, fu (by decide)]).trans r32
  have ei : J33 = sIn J17 := by rw [e33, e32, e31, e30, e29, e28, e27, e26, e25, e24, e23, e22, e21, e20, e19, e18]; rfl
  obtain ⟨J34, h34⟩ : ∃ z, z = mv_34 J33 o := ⟨_, rfl⟩
  have e34 : J34 = MR J33 119 64 20 o := by rw [h34]; exact sm_MR (w := 119) (m := 64) (off := 20) (by decide) (by decide) (by decide) rfl
  obtain ⟨J35, h35⟩ : ∃ z, z = mv_35 J34 o := ⟨_, rfl⟩
  have e35 : J35 = MR J34 120 64 84 o := by rw [h35]; exact sm_MR (w := 120) (m := 64) (off := 84) (by decide) (by decide) (by decide) rfl
  obtain ⟨J36, h36⟩ : ∃ z, z = mv_36 J35 o := ⟨_, rfl⟩
  have e36 : J36 = MR J35 121 96 148 o := by rw [h36]; exact sm_MR (w := 121) (m := 96) (off := 148) (by decide) (by decide) (by decide) rfl
  obtain ⟨J37, h37⟩ : ∃ z, z = mv_37 J36 o := ⟨_, rfl⟩
  have e37 : J37 = MR J36 122 96 244 o := by rw [h37]; exact sm_MR (w := 122) (m := 96) (off := 244) (by decide) (by decide) (by decide) rfl
  obtain ⟨J38, h38⟩ : ∃ z, z = mv_38 J37 o := ⟨_, rfl⟩
  have e38 : J38 = MR J37 123 96 340 o := by rw [h38]; exact sm_MR (w := 123) (m := 96) (off := 340) (by decide) (by decide) (by decide) rfl
  obtain ⟨J39, h39⟩ : ∃ z, z = mv_39 J38 o := ⟨_, rfl⟩
  have e39 : J39 = MR J38 124 8 436 o := by rw [h39]; exact sm_MR (w := 124) (m := 8) (off := 436) (by decide) (by decide) (by decide) rfl
  obtain ⟨J40, h40⟩ : ∃ z, z = mv_40 J39 o := ⟨_, rfl⟩
  have e40 : J40 = MR J39 125 8 444 o := by rw [h40]; exact sm_MR (w := 125) (m := 8) (off := 444) (by decide) (by decide) (by decide) rfl
  obtain ⟨J41, h41⟩ : ∃ z, z = mv_41 J40 o := ⟨_, rfl⟩
  have e41 : J41 = MR J40 126 16 452 o := by rw [h41]; exact sm_MR (w := 126) (m := 16) (off := 452) (by decide) (by decide) (by decide) rfl
  obtain ⟨J42, h42⟩ : ∃ z, z = mv_42 J41 o := ⟨_, rfl⟩
  have e42 : J42 = MR J41 127 16 468 o := by rw [h42]; exact sm_MR (w := 127) (m := 16) (off := 468) (by decide) (by decide) (by decide) rfl
  obtain ⟨J43, h43⟩ : ∃ z, z = mv_43 J42 o := ⟨_, rfl⟩
  have e43 : J43 = MR J42 128 40 484 o := by rw [h43]; exact sm_MR (w := 128) (m := 40) (off := 484) (by decide) (by decide) (by decide) rfl
  obtain ⟨J44, h44⟩ : ∃ z, z = mv_44 J43 o := ⟨_, rfl⟩
  have e44 : J44 = MR J43 129 60 524 o := by rw [h44]; exact sm_MR (w := 129) (m := 60) (off := 524) (by decide) (by decide) (by decide) rfl
  obtain ⟨J45, h45⟩ : ∃ z, z = mv_45 J44 o := ⟨_, rfl⟩
  have e45 : J45 = MR J44 130 60 584 o := by rw [h45]; exact sm_MR (w := 130) (m := 60) (off := 584) (by decide) (by decide) (by decide) rfl
  obtain ⟨J46, h46⟩ : ∃ z, z = mv_46 J45 o := ⟨_, rfl⟩
  have e46 : J46 = MR J45 131 128 644 o := by rw [h46]; exact sm_MR (w := 131) (m := 128) (off := 644) (by decide) (by decide) (by decide) rfl
  obtain ⟨J47, h47⟩ : ∃ z, z = mv_47 J46 o := ⟨_, rfl⟩
  have e47 : J47 = MR J46 132 40 772 o := by rw [h47]; exact sm_MR (w := 132) (m := 40) (off := 772) (by decide) (by decide) (by decide) rfl
  obtain ⟨J48, h48⟩ : ∃ z, z = mv_48 J47 o := ⟨_, rfl⟩
  have e48 : J48 = MR J47 134 96 812 o := by rw [h48]; exact sm_MR (w := 134) (m := 96) (off := 812) (by decide) (by decide) (by decide) rfl
  obtain ⟨J49, h49⟩ : ∃ z, z = mv_49 J48 o := ⟨_, rfl⟩
  have e49 : J49 = MR J48 135 88 908 o := by rw [h49]; exact sm_MR (w := 135) (m := 88) (off := 908) (by decide) (by decide) (by decide) rfl
  have ez : s_Mod_moveAll I o = J49 := by rw [h49, h48, h47, h46, h45, h44, h43, h42, h41, h40, h39, h38, h37, h36, h35, h34, h33, h32, h31, h30, h29, h28, h27, h26, h25, h24, h23, h22, h21, h20, h19, h18, h17, h16, h15, h14, h13, h12, h11, h10, h9, h8, h7, h6, h5, h4, h3, h2, h1]; rfl
  rw [ez, e49, e48, e47, e46, e45, e44, e43, e42, e41, e40, e39, e38, e37, e36, e35, e34, ei, e17]
  rfl
