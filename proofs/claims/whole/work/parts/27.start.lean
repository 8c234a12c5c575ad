/-! the law's start: the tables, the frame, the three cells that the law makes itself -/
theorem nw_Eng_9 : Nw "WardEngine" 9 1 11 := ⟨R_Rdr, F_Rdr, rfl, rfl, i_Rdr, t_Rdr_ok, by decide, tk1 41 rfl rfl, tk1 42 rfl rfl, tk1 2 rfl rfl⟩
theorem nw_Eng_16 : Nw "WardEngine" 16 2 5 := ⟨R_Prd, F_Prd, rfl, rfl, i_Prd, t_Prd_ok, by decide, tk1 150 rfl rfl, tk1 151 rfl rfl, tk1 7 rfl rfl⟩
theorem nw_Eng_25 : Nw "WardEngine" 25 4 5 := ⟨R_Img, F_Img, rfl, rfl, i_Img, t_Img_ok, by decide, tk1 213 rfl rfl, tk1 214 rfl rfl, tk1 10 rfl rfl⟩
theorem nw_Eng_32 : Nw "WardEngine" 32 7 15 := ⟨R_Stp, F_Stp, rfl, rfl, i_Stp, t_Stp_ok, by decide, tk2 116 rfl rfl, tk2 117 rfl rfl, tk1 13 rfl rfl⟩
theorem nw_Eng_39 : Nw "WardEngine" 39 9 7 := ⟨R_Cmp, F_Cmp, rfl, rfl, i_Cmp, t_Cmp_ok, by decide, tk2 186 rfl rfl, tk2 187 rfl rfl, tk1 15 rfl rfl⟩
theorem nw_Eng_46 : Nw "WardEngine" 46 3 7 := ⟨R_Pol, F_Pol, rfl, rfl, i_Pol, t_Pol_ok, by decide, tk2 218 rfl rfl, tk1 157 rfl rfl, tk1 8 rfl rfl⟩
theorem nw_Eng_53 : Nw "WardEngine" 53 11 4 := ⟨R_Sbd, F_Sbd, rfl, rfl, i_Sbd, t_Sbd_ok, by decide, tk2 220 rfl rfl, tk2 221 rfl rfl, tk1 17 rfl rfl⟩
theorem nw_Eng_63 : Nw "WardEngine" 63 5 19 := ⟨R_Mch, F_Mch, rfl, rfl, i_Mch, t_Mch_ok, by decide, tk3 11 rfl rfl, tk1 220 rfl rfl, tk1 11 rfl rfl⟩
theorem nw_Cmp_15 : Nw "WardEngine$Comparer" 15 8 3 := ⟨R_Wrk, F_Wrk, rfl, rfl, i_Wrk, t_Wrk_ok, by decide, tk2 192 rfl rfl, tk2 123 rfl rfl, tk1 14 rfl rfl⟩
theorem nw_Img_15 : Nw "WardEngine$ImageReader" 15 5 19 := ⟨R_Mch, F_Mch, rfl, rfl, i_Mch, t_Mch_ok, by decide, tk1 219 rfl rfl, tk1 220 rfl rfl, tk1 11 rfl rfl⟩
theorem nw_Mch_54 : Nw "WardEngine$Machine" 54 6 5 := ⟨R_Rng, F_Rng, rfl, rfl, i_Rng, t_Rng_ok, by decide, tk1 225 rfl rfl, tk1 226 rfl rfl, tk1 12 rfl rfl⟩
theorem nw_Prd_15 : Nw "WardEngine$PolicyReader" 15 3 7 := ⟨R_Pol, F_Pol, rfl, rfl, i_Pol, t_Pol_ok, by decide, tk1 156 rfl rfl, tk1 157 rfl rfl, tk1 8 rfl rfl⟩
theorem nw_Stp_9 : Nw "WardEngine$Stepper" 9 8 3 := ⟨R_Wrk, F_Wrk, rfl, rfl, i_Wrk, t_Wrk_ok, by decide, tk2 122 rfl rfl, tk2 123 rfl rfl, tk1 14 rfl rfl⟩
theorem nw_Law_8 : Nw "WardEngineLaw" 8 0 10 := ⟨R_Eng, F_Eng, rfl, rfl, i_Eng, t_Eng_ok, by decide, tk1 33 rfl rfl, tk1 34 rfl rfl, tk1 1 rfl rfl⟩
theorem nw_Law_86 : Nw "WardEngineLaw" 86 10 88 := ⟨R_Mod, F_Mod, rfl, rfl, i_Mod, t_Mod_ok, by decide, tk7 205 rfl rfl, tk7 206 rfl rfl, tk1 18 rfl rfl⟩
theorem oi_Eng_3 : Cond.methodLink "WardEngine" 3 Lib.objectInit ∈ tb := tk1 38 rfl rfl
theorem ci_Eng_11 : CI "WardEngine" 11 m_Rdr_init 0 := ⟨⟨by decide, by decide, by decide +kernel⟩, rfl, rfl, tk1 43 rfl rfl, tk1 44 rfl rfl, tk1 2 rfl rfl, tk1 45 rfl rfl, by decide⟩
theorem ci_Eng_18 : CI "WardEngine" 18 m_Prd_init 1 := ⟨⟨by decide, by decide, by decide +kernel⟩, rfl, rfl, tk1 152 rfl rfl, tk1 153 rfl rfl, tk1 7 rfl rfl, tk1 154 rfl rfl, by decide⟩
theorem ci_Eng_27 : CI "WardEngine" 27 m_Img_init 1 := ⟨⟨by decide, by decide, by decide +kernel⟩, rfl, rfl, tk1 215 rfl rfl, tk1 216 rfl rfl, tk1 10 rfl rfl, tk1 217 rfl rfl, by decide⟩
theorem ci_Eng_34 : CIN "WardEngine" 34 "WardEngine" m_Stp_init 0 := ⟨⟨by decide, by decide, by decide +kernel⟩, rfl, rfl, List.mem_append_right _ (List.mem_of_getElem? (i := 358) (by decide +kernel)), tk2 119 rfl rfl, tk1 13 rfl rfl, tk2 120 rfl rfl, by decide⟩
theorem ci_Eng_41 : CIN "WardEngine" 41 "WardEngine" m_Cmp_init 0 := ⟨⟨by decide, by decide, by decide +kernel⟩, rfl, rfl, List.mem_append_right _ (List.mem_of_getElem? (i := 428) (by decide +kernel)), tk2 189 rfl rfl, tk1 15 rfl rfl, tk2 190 rfl rfl, by decide⟩
theorem ci_Eng_48 : CI "WardEngine" 48 m_Pol_init 0 := ⟨⟨by decide, by decide, by decide +kernel⟩, rfl, rfl, tk2 219 rfl rfl, tk1 159 rfl rfl, tk1 8 rfl rfl, tk1 160 rfl rfl, by decide⟩
theorem ci_Eng_65 : CI "WardEngine" 65 m_Mch_init 0 := ⟨⟨by decide, by decide, by decide +kernel⟩, rfl, rfl, tk3 12 rfl rfl, tk1 222 rfl rfl, tk1 11 rfl rfl, tk1 223 rfl rfl, by decide⟩
theorem oi_Mod_1 : Cond.methodLink "WardEngineModel" 1 Lib.objectInit ∈ tb := tk7 210 rfl rfl
theorem oi_Cmp_3 : Cond.methodLink "WardEngine$Comparer" 3 Lib.objectInit ∈ tb := tk2 191 rfl rfl
theorem ci_Cmp_17 : CIN "WardEngine$Comparer" 17 "WardEngine" m_Wrk_init 0 := ⟨⟨by decide, by decide, by decide +kernel⟩, rfl, rfl, List.mem_append_right _ (List.mem_of_getElem? (i := 433) (by decide +kernel)), tk2 125 rfl rfl, tk1 14 rfl rfl, tk2 126 rfl rfl, by decide⟩
theorem oi_Img_3 : Cond.methodLink "WardEngine$ImageReader" 3 Lib.objectInit ∈ tb := tk1 218 rfl rfl
theorem ci_Img_17 : CI "WardEngine$ImageReader" 17 m_Mch_init 0 := ⟨⟨by decide, by decide, by decide +kernel⟩, rfl, rfl, tk1 221 rfl rfl, tk1 222 rfl rfl, tk1 11 rfl rfl, tk1 223 rfl rfl, by decide⟩
theorem oi_Mch_3 : Cond.methodLink "WardEngine$Machine" 3 Lib.objectInit ∈ tb := tk1 224 rfl rfl
theorem ci_Mch_56 : CI "WardEngine$Machine" 56 m_Rng_init 3 := ⟨⟨by decide, by decide, by decide +kernel⟩, rfl, rfl, tk1 227 rfl rfl, tk1 228 rfl rfl, tk1 12 rfl rfl, tk1 229 rfl rfl, by decide⟩
theorem oi_Pol_3 : Cond.methodLink "WardEngine$Policy" 3 Lib.objectInit ∈ tb := tk1 161 rfl rfl
theorem oi_Prd_3 : Cond.methodLink "WardEngine$PolicyReader" 3 Lib.objectInit ∈ tb := tk1 155 rfl rfl
theorem ci_Prd_17 : CI "WardEngine$PolicyReader" 17 m_Pol_init 0 := ⟨⟨by decide, by decide, by decide +kernel⟩, rfl, rfl, tk1 158 rfl rfl, tk1 159 rfl rfl, tk1 8 rfl rfl, tk1 160 rfl rfl, by decide⟩
theorem oi_Rdr_3 : Cond.methodLink "WardEngine$Reader" 3 Lib.objectInit ∈ tb := tk1 46 rfl rfl
theorem oi_Rng_3 : Cond.methodLink "WardEngine$Ring" 3 Lib.objectInit ∈ tb := tk1 230 rfl rfl
theorem oi_Stp_3 : Cond.methodLink "WardEngine$Stepper" 3 Lib.objectInit ∈ tb := tk2 121 rfl rfl
theorem ci_Stp_11 : CIN "WardEngine$Stepper" 11 "WardEngine" m_Wrk_init 0 := ⟨⟨by decide, by decide, by decide +kernel⟩, rfl, rfl, List.mem_append_right _ (List.mem_of_getElem? (i := 364) (by decide +kernel)), tk2 125 rfl rfl, tk1 14 rfl rfl, tk2 126 rfl rfl, by decide⟩
theorem oi_Wrk_3 : Cond.methodLink "WardEngine$Worker" 3 Lib.objectInit ∈ tb := tk2 127 rfl rfl
theorem ci_Law_85 : CI "WardEngineLaw" 85 m_Eng_init 0 := ⟨⟨by decide, by decide, by decide +kernel⟩, rfl, rfl, tk1 35 rfl rfl, tk1 36 rfl rfl, tk1 1 rfl rfl, tk1 37 rfl rfl, by decide⟩
theorem ci_Law_88 : CI "WardEngineLaw" 88 m_Mod_init 0 := ⟨⟨by decide, by decide, by decide +kernel⟩, rfl, rfl, tk7 207 rfl rfl, tk7 208 rfl rfl, tk1 18 rfl rfl, tk7 209 rfl rfl, by decide⟩
theorem s_Pol_45 : CSN "WardEngine$Policy" 45 "WardEngine" m_Eng_copyRow 2 := ⟨⟨by decide, by decide, by decide +kernel⟩, List.mem_append_right _ (List.mem_of_getElem? (i := 813) (by decide +kernel)), tk4 94 rfl rfl, tk1 1 rfl rfl, tk4 95 rfl rfl, by decide⟩
theorem s_Mch_85 : CSN "WardEngine$Machine" 85 "WardEngine" m_Eng_copyRow 2 := ⟨⟨by decide, by decide, by decide +kernel⟩, List.mem_append_right _ (List.mem_of_getElem? (i := 828) (by decide +kernel)), tk4 94 rfl rfl, tk1 1 rfl rfl, tk4 95 rfl rfl, by decide⟩
theorem s_Rng_42 : CSN "WardEngine$Ring" 42 "WardEngine" m_Eng_copyRow 2 := ⟨⟨by decide, by decide, by decide +kernel⟩, List.mem_append_right _ (List.mem_of_getElem? (i := 833) (by decide +kernel)), tk4 94 rfl rfl, tk1 1 rfl rfl, tk4 95 rfl rfl, by decide⟩
theorem oi_1 : Cond.instanceMethod Lib.objectInit ∈ tb := tk1 39 rfl rfl
theorem oi_2 : Cond.code Lib.objectInit ⟨#[0xb1]⟩ 1 none ∈ tb := tk1 40 rfl rfl
theorem ac_int : Cond.arrayClass .int ∈ tb := tk1 147 rfl rfl
theorem ac_long : Cond.arrayClass .long ∈ tb := tk1 148 rfl rfl
theorem ac_char : Cond.arrayClass .char ∈ tb := tk1 146 rfl rfl
theorem ac_byte : Cond.arrayClass .byte ∈ tb := tk1 149 rfl rfl
theorem arr_known {s : State} {args : Array Value} {ty : FieldType} (h : (Cond.arrayClass ty).before args s = true) (hp : ty = .int ∨ ty = .long ∨ ty = .char ∨ ty = .byte) : ∃ cA, ArrOfT s cA ty ∧ va_RA s cA ty := by
  obtain ⟨cA, kA, comp, h1, h2, h3⟩ := Cond.arrayClass_spec h
  refine ⟨cA, fun n z => ⟨fun k h => (by cases h), kA, h2, comp, h3⟩, ?_⟩
  unfold va_RA
  rcases hp with rfl | rfl | rfl | rfl <;> exact h1
theorem k_start {l : Launch} {s : State} {b : Nat} (hfl : l.flags = flags0) (hts : ∀ w ∈ lw_tbl, w.before #[Value.ref b] s = true) (hgv : (Jvm.Cond.and given_1 narrow_1).before #[Value.ref b] s = true) (htb : ∀ w ∈ tb, w.before #[Value.ref b] s = true) : ∃ (D : va_G) (ca : FieldType → ClassId), Kx (l, D, ca, s.heap.size, s, #[Value.ref b]) s := by
  obtain ⟨c0, iS0, hKn0⟩ := u_known (C := R_Eng) (T := F_Eng) (N := 10) (n := 10) htb i_Eng (htb (.instantiable R_Eng 10) (tk1 34 rfl rfl))
  obtain ⟨c1, iS1, hKn1⟩ := u_known (C := R_Rdr) (T := F_Rdr) (N := 11) (n := 11) htb i_Rdr (htb (.instantiable R_Rdr 11) (tk1 42 rfl rfl))
  obtain ⟨c2, iS2, hKn2⟩ := u_known (C := R_Prd) (T := F_Prd) (N := 5) (n := 5) htb i_Prd (htb (.instantiable R_Prd 5) (tk1 151 rfl rfl))
  obtain ⟨c3, iS3, hKn3⟩ := u_known (C := R_Pol) (T := F_Pol) (N := 7) (n := 7) htb i_Pol (htb (.instantiable R_Pol 7) (tk1 157 rfl rfl))
  obtain ⟨c4, iS4, hKn4⟩ := u_known (C := R_Img) (T := F_Img) (N := 5) (n := 5) htb i_Img (htb (.instantiable R_Img 5) (tk1 214 rfl rfl))
  obtain ⟨c5, iS5, hKn5⟩ := u_known (C := R_Mch) (T := F_Mch) (N := 19) (n := 19) htb i_Mch (htb (.instantiable R_Mch 19) (tk1 220 rfl rfl))
  obtain ⟨c6, iS6, hKn6⟩ := u_known (C := R_Rng) (T := F_Rng) (N := 5) (n := 5) htb i_Rng (htb (.instantiable R_Rng 5) (tk1 226 rfl rfl))
  obtain ⟨c7, iS7, hKn7⟩ := u_known (C := R_Stp) (T := F_Stp) (N := 15) (n := 15) htb i_Stp (htb (.instantiable R_Stp 15) (tk2 117 rfl rfl))
  obtain ⟨c8, iS8, hKn8⟩ := u_known (C := R_Wrk) (T := F_Wrk) (N := 3) (n := 3) htb i_Wrk (htb (.instantiable R_Wrk 3) (tk2 123 rfl rfl))
  obtain ⟨c9, iS9, hKn9⟩ := u_known (C := R_Cmp) (T := F_Cmp) (N := 7) (n := 7) htb i_Cmp (htb (.instantiable R_Cmp 7) (tk2 187 rfl rfl))
  obtain ⟨c10, iS10, hKn10⟩ := u_known (C := R_Mod) (T := F_Mod) (N := 88) (n := 88) htb i_Mod (htb (.instantiable R_Mod 88) (tk7 206 rfl rfl))
  obtain ⟨c11, iS11, hKn11⟩ := u_known (C := R_Sbd) (T := F_Sbd) (N := 4) (n := 4) htb i_Sbd (htb (.instantiable R_Sbd 4) (tk2 221 rfl rfl))
  obtain ⟨a0, hA0⟩ := arr_known (htb _ ac_int) (by simp)
  obtain ⟨a1, hA1⟩ := arr_known (htb _ ac_long) (by simp)
  obtain ⟨a2, hA2⟩ := arr_known (htb _ ac_char) (by simp)
  obtain ⟨a3, hA3⟩ := arr_known (htb _ ac_byte) (by simp)
  refine ⟨(fun k => ([c0, c1, c2, c3, c4, c5, c6, c7, c8, c9, c10, c11] : List ClassId).getD k 0, fun k => ([iS0, iS1, iS2, iS3, iS4, iS5, iS6, iS7, iS8, iS9, iS10, iS11] : List (Nat → Nat)).getD k (fun _ => 0)), fun t => match t with | .int => a0 | .long => a1 | .char => a2 | .byte => a3 | _ => 0, ⟨fun k q hq => ?_, fun k q hq => ?_⟩, hfl, hgv, hts, State.WarmedH.refl _, rfl, fun _ _ => rfl⟩
  · rcases k with _ | _ | _ | _ | _ | _ | _ | _ | _ | _ | _ | _ | k
    · cases hq; exact hKn0
    · cases hq; exact hKn1
    · cases hq; exact hKn2
    · cases hq; exact hKn3
    · cases hq; exact hKn4
    · cases hq; exact hKn5
    · cases hq; exact hKn6
    · cases hq; exact hKn7
    · cases hq; exact hKn8
    · cases hq; exact hKn9
    · cases hq; exact hKn10
    · cases hq; exact hKn11
    · cases hq
  · rcases k with _ | _ | _ | _ | k
    · cases hq; exact hA0
    · cases hq; exact hA1
    · cases hq; exact hA2
    · cases hq; exact hA3
    · cases hq
def σ0 : St := (fun _ _ => 0, fun _ _ => 0, fun _ _ => .null)
theorem fresh0 (a : Nat) : Fresh σ0 a := ⟨fun _ => rfl, fun _ => rfl, fun _ => rfl⟩
/-- what is owed of the class and the reference: their constructors, and a step for each call -/
def Owed (Δ : Dx) : Prop := ∃ (S : Nat → St → Prop) (σ1 σ2 : St) (j1 j2 : Nat), j1 < 90 ∧ j2 < 90 ∧ EvC Δ j1 m_Eng_init 1 [.ref (Δ.ba + 0)] σ0 102 σ1 101 12839 ∧ EvC Δ j2 m_Mod_init 103 [.ref (Δ.ba + 102)] σ1 141 σ2 38 14954 ∧ (∀ a, 102 ≤ a → Fresh σ1 a) ∧ (Fresh σ2 141 ∧ ∀ (ca : FieldType → ClassId) (ba : Nat), dyO ca ba σ2 = []) ∧ S 0 σ2 ∧ DoAll Δ S
set_option maxRecDepth 20000 in
set_option maxHeartbeats 4000000 in
theorem start_of {p : Program} {e : Env} {s : State} {m : MethodId} {below : List Frame} {meth : Method} {c : Code} (l : Launch) (hfl : l.flags = flags0) {b L : Nat} {xs : Nat → Int32} (hL : L ≤ 2560) (C0 : lw_At p s m meth c b L xs) (hnm : meth.name = "law") (hO : ∀ Δ : Dx, Kx Δ Δ.s0 → Owed Δ) : W p l e room_1 s m #[Value.ref b] below meth c s.heap [] 0 0 (lw_Z below #[Value.ref b] s) (entryFrame m ([Value.ref b] : List Value).toArray 7) := by
  obtain ⟨hx, hb, hr, hml, hown, hts, hX, hbl, hlocks, hgv⟩ := id C0
  have htb : ∀ w ∈ tb, w.before #[Value.ref b] s = true := fun w hw => hts w (List.mem_filter.mp hw).1
  obtain ⟨D, ca, hK⟩ := k_start hfl hts hgv htb
  obtain ⟨S, σ1, σ2, j1, j2, l1, l2, E1, E2, hF1, hF2, hS, hD⟩ := hO (l, D, ca, s.heap.size, s, #[Value.ref b]) hK
  have F : LF (l, D, ca, s.heap.size, s, #[Value.ref b]) ((p, e, room_1, s), (m, #[Value.ref b], below, meth, c), lw_Z below #[Value.ref b] s, 100) b L xs := ⟨hX, hbl, hbl, hL, rfl, rfl⟩
  have ok : Ok (l, D, ca, s.heap.size, s, #[Value.ref b]) m_Law_law ((p, e, room_1, s), (m, #[Value.ref b], below, meth, c), lw_Z below #[Value.ref b] s, 100) := ⟨hx, hb, hml, hown, htb, hr, hlocks, hK, hnm, Nat.le_refl _, by show 100 ≤ 2048; decide, by show 60 * 100 ≤ 84000; decide⟩
  have main : GG (l, D, ca, s.heap.size, s, #[Value.ref b]) m_Law_law ((p, e, room_1, s), (m, #[Value.ref b], below, meth, c), lw_Z below #[Value.ref b] s, 100) 0 0 0 σ0 0 (lvE [.ref b] 7) [] := by
    refine g_new (pc := 0) (dd d_Law_law 0 rfl) nw_Law_8 rfl (fresh0 _) rfl (by show 0 + 1 ≤ 601024; decide) (by show 0 + 10 ≤ 7293034; decide) ?_
    refine g_dup (pc := 3) (dd d_Law_law 1 rfl) rfl ?_
    refine g_callI (pc := 4) (dd d_Law_law 2 rfl) ci_Law_85 E1 rfl (by show j1 < 100; omega) (Nat.le_of_ble_eq_true rfl) ⟨by show 0 + 1 + 101 ≤ 601024; decide, by show 0 + 10 + 12839 ≤ 7293034; decide⟩ rfl rfl ?_
    refine g_astore_n (pc := 7) (dd d_Law_law 3 rfl) (by decide) ?_
    refine g_new (pc := 8) (dd d_Law_law 4 rfl) nw_Law_86 rfl (hF1 _ (by decide)) rfl (by show 0 + 1 + 101 + 1 ≤ 601024; decide) (by show 0 + 10 + 12839 + 88 ≤ 7293034; decide) ?_
    refine g_dup (pc := 11) (dd d_Law_law 5 rfl) rfl ?_
    refine g_callI (pc := 12) (dd d_Law_law 6 rfl) ci_Law_88 E2 rfl (by show j2 < 100; omega) (Nat.le_of_ble_eq_true rfl) ⟨by show 0 + 1 + 101 + 1 + 38 ≤ 601024; decide, by show 0 + 10 + 12839 + 88 + 14954 ≤ 7293034; decide⟩ rfl rfl ?_
    refine g_astore_n (pc := 15) (dd d_Law_law 7 rfl) (by decide) ?_
    refine g_iconst (pc := 16) (v := 1) (dd d_Law_law 8 rfl) (by decide) ?_
    refine g_newa (pc := 17) (N := 1) (t := 1) (dd d_Law_law 9 rfl) rfl ac_long rfl rfl (by decide) (by decide) (by decide) hF2.1 rfl (by show 0 + 1 + 101 + 1 + 38 + 1 ≤ 601024; decide) (by show 0 + 10 + 12839 + 88 + 14954 + 1 ≤ 7293034; decide) (Or.inr (Or.inl rfl)) ?_ (by decide) (fun _ => hF2.2 _ _)
    refine g_astore_n (pc := 19) (dd d_Law_law 10 rfl) (by decide) ?_
    refine g_iconst (pc := 20) (v := 0) (dd d_Law_law 11 rfl) (by decide) ?_
    refine g_istore (pc := 21) (dd d_Law_law 12 rfl) (by decide) ?_
    exact law_loop F rfl rfl rfl hD (L + 5) 0 142 27892 σ2 hS (by omega) (by omega) (by omega) (by omega)
  have hl := lv_entry ([.ref b]) (n := 7) (Nat.le_of_ble_eq_true rfl)
  have hw := main ok s.heap [] _ (fun k q h => by cases k <;> cases h) va_S.rf ⟨hl.1, hl.2.1, fun i v h => by
    have := lv0_mem [.ref b] 0 i v (lvE_at h)
    rw [Nat.zero_add] at this
    exact hl.2.2 (i, v) this⟩
  rw [← lg_entry_eq] at hw
  exact hw
