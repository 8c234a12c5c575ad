/-! an instruction is done: the kinds -/
theorem btw {kd : Nat} {R : IM} (hk : kd < 22) (h : R MO 75 = nI kd) : f_Mod_between 1 11 R = some (if 1 ≤ kd ∧ kd ≤ 11 then 1 else 0) := by
  unfold f_Mod_between
  rw [h]
  have : ∀ k, k < 22 → (if nI k < (1 : Int32) then (0 : Int32) else (if (11 : Int32) < nI k then 0 else 1)) = if 1 ≤ k ∧ k ≤ 11 then 1 else 0 := by decide
  exact congrArg some (this kd hk)
theorem PF_0 {m : Nat} {C R : IM} : PF m C R C R := ⟨fun _ _ _ => rfl, fun _ _ _ _ => rfl, fun _ _ _ => rfl, fun _ _ _ _ _ => rfl⟩
theorem PF_reg {m a : Nat} {C R : IM} {v t : Int32} : PF m C R (up (up C (m + 6) a v) (m + 7) a t) (up (up R A_registers a v) A_registerTags a t) := ⟨fun b z1 z2 => by rw [fu (by omega), fu (by omega)], fun j _ _ _ => by rw [fu (by omega), fu (by omega)], fun b z1 z2 => by rw [fu (by show b ≠ 125; omega), fu (by show b ≠ 124; omega)], fun j _ _ _ _ => by rw [fu (show MO ≠ A_registerTags by decide), fu (show MO ≠ A_registers by decide)]⟩
/-- the register's row alone is changed -/
theorem Q234_reg {b m a : Nat} {C R : IM} {v t : Int32} (q2 : Q2 C m R) (q3 : Q3 C m R) (q4 : Q4 b C m R) : Q2 (up (up C (m + 6) a v) (m + 7) a t) m (up (up R A_registers a v) A_registerTags a t) ∧ Q3 (up (up C (m + 6) a v) (m + 7) a t) m (up (up R A_registers a v) A_registerTags a t) ∧ Q4 (b + 1) (up (up C (m + 6) a v) (m + 7) a t) m (up (up R A_registers a v) A_registerTags a t) := by
  have cb : ∀ k, k ≠ m + 6 → k ≠ m + 7 → up (up C (m + 6) a v) (m + 7) a t k = C k := fun k z1 z2 => by rw [fu z2, fu z1]
  have rb : ∀ k, k ≠ A_registers → k ≠ A_registerTags → up (up R A_registers a v) A_registerTags a t k = R k := fun k z1 z2 => by rw [fu z2, fu z1]
  refine ⟨?_, Q3_c q3 (cb _ (by omega) (by omega)) (cb _ (by omega) (by omega)) (rb _ (by decide) (by decide)) (rb _ (by decide) (by decide)) (by rw [rb MO (by decide) (by decide)]), Q4_c (by omega) q4 (cb _ (by omega) (by omega)) (rb _ (by decide) (by decide)) (by rw [rb MO (by decide) (by decide)])⟩
  unfold Q2 at q2 ⊢
  rw [cb m (by omega) (by omega), cb (m + 13) (by omega) (by omega), rb MO (by decide) (by decide)]
  exact q2
theorem Q4_m {b : Nat} {C R : IM} {m : Nat} (q4 : Q4 b C m R) : Q4 (b + 1) C m R := Q4_c (by omega) q4 rfl rfl rfl
/-- what perform starts from -/
def PS (b n m kd a bb c pl : Nat) (C R : IM) : Prop := 1000 ≤ n ∧ isMch m ∧ DEC C R kd a bb c pl ∧ Q1 C m R ∧ Q2 C m R ∧ Q3 C m R ∧ Q4 b C m R ∧ C 35 12 = R MO 83 ∧ C 35 13 = R MO 84 ∧ C 35 14 = R MO 85 ∧ R MO 50 = 0
theorem m35 {m : Nat} (hm : isMch m) : m + 19 ≤ 35 ∨ 38 < m := by rcases hm with rfl | rfl | rfl <;> omega
theorem k72 {n : Nat} {x : Int32} {R : IM} {kd : Nat} (hk : kd < 22) (h : R MO 75 = nI kd) (h0 : kd ≠ 18) (h1 : kd ≠ 12) (h2 : kd ≠ 13) (h3 : kd ≠ 16) (h4 : kd ≠ 14) : b_Mod_perform_72 n x R = b_Mod_perform_191 n x R := by
  unfold b_Mod_perform_72
  rw [h, if_neg (fun z => h0 ((kde hk 18 (by decide)).mp z)), if_neg (fun z => h1 ((kde hk 12 (by decide)).mp z)), if_neg (fun z => h2 ((kde hk 13 (by decide)).mp z)), if_neg (fun z => h3 ((kde hk 16 (by decide)).mp z)), if_neg (fun z => h4 ((kde hk 14 (by decide)).mp z))]
theorem k191 {n : Nat} {x : Int32} {R : IM} {kd : Nat} (hk : kd < 22) (h : R MO 75 = nI kd) (h0 : kd ≠ 15) (h1 : kd ≠ 17) (h2 : kd ≠ 20) (h3 : kd ≠ 0) : b_Mod_perform_191 n x R = some (x, R) := by
  unfold b_Mod_perform_191
  rw [h, if_neg (fun z => h0 ((kde hk 15 (by decide)).mp z)), if_neg (fun z => h1 ((kde hk 17 (by decide)).mp z)), if_neg (fun z => h2 ((kde hk 20 (by decide)).mp z)), if_neg (fun z => h3 ((kde hk 0 (by decide)).mp z))]
  rfl
theorem kperf {n : Nat} {R : IM} {kd : Nat} (hk : kd < 22) (h : R MO 75 = nI kd) : f_Mod_perform n R = if (1 ≤ kd ∧ kd ≤ 11) ∨ kd = 16 ∨ kd = 18 ∨ kd = 21 then b_Mod_perform_44 n (R MO 42 + 1) R else b_Mod_perform_72 n (R MO 42 + 1) R := by
  unfold f_Mod_perform
  rw [btw hk h, Option.bind_some, h]
  by_cases z : 1 ≤ kd ∧ kd ≤ 11
  · rw [if_pos z, if_neg (by decide), if_pos (Or.inl z)]
  · rw [if_neg z, if_pos rfl]
    by_cases z1 : kd = 16
    · rw [if_pos ((kde hk 16 (by decide)).mpr z1), if_pos (Or.inr (Or.inl z1))]
    · rw [if_neg (fun y => z1 ((kde hk 16 (by decide)).mp y))]
      by_cases z2 : kd = 18
      · rw [if_pos ((kde hk 18 (by decide)).mpr z2), if_pos (Or.inr (Or.inr (Or.inl z2)))]
      · rw [if_neg (fun y => z2 ((kde hk 18 (by decide)).mp y))]
        by_cases z3 : kd = 21
        · rw [if_pos ((kde hk 21 (by decide)).mpr z3), if_pos (Or.inr (Or.inr (Or.inr z3)))]
        · rw [if_neg (fun y => z3 ((kde hk 21 (by decide)).mp y)), if_neg (fun y => by omega)]
theorem k44 {n a : Nat} {x v : Int32} {R : IM} (ha : a < 8) (h76 : R MO 76 = nI a) (hv : f_Mod_result R = some v) : b_Mod_perform_44 n x R = b_Mod_perform_72 n x (up (up R A_registers a v) A_registerTags a (R MO 83)) := by
  rw [b_Mod_perform_44, hv, Option.bind_some, h76, chk_i (nki ha (by decide)), lt, nkc (by omega), fu (show MO ≠ A_registers by decide), h76, chk_i (nki ha (by decide)), lt, nkc (by omega)]
theorem perf_reg {b n m kd a bb c pl : Nat} {C R : IM} (ps : PS b n m kd a bb c pl C R) (hk : (1 ≤ kd ∧ kd ≤ 11) ∨ kd = 21) (hw : kd = 11 → inW (R MO 80)) : PG b n m C R kd := by
  obtain ⟨hn, hm, d, q1, q2, q3, q4, t12, t13, t14, h50⟩ := ps
  obtain ⟨v, v1, v2⟩ := res_eq d q1 hk hw
  obtain ⟨hk2, ha, hb, hc, hpl, d1, d2, d3, d4, d5, d6, d7, d8, d9, d10, d11, d12, d13, d14, d15⟩ := d
  have mm := m35 hm
  obtain ⟨y2, y3, y4⟩ := Q234_reg (a := a) (v := v) (t := R MO 83) q2 q3 q4
  refine ⟨up (up C (m + 6) a v) (m + 7) a (R MO 83), up (up R A_registers a v) A_registerTags a (R MO 83), nI pl + 1, ?_, ?_, Q1_reg ha q1, y2, y3, y4, PF_reg, ?_⟩
  · have e300 : f_Stp_perform n m C = b_Stp_perform_300 n m (C 35 2 + 1) C := by
      unfold f_Stp_perform
      rw [d1]
      have : kd = 1 ∨ kd = 2 ∨ kd = 3 ∨ kd = 4 ∨ kd = 5 ∨ kd = 6 ∨ kd = 7 ∨ kd = 8 ∨ kd = 9 ∨ kd = 10 ∨ kd = 11 ∨ kd = 21 := by omega
      rcases this with rfl | rfl | rfl | rfl | rfl | rfl | rfl | rfl | rfl | rfl | rfl | rfl <;> rfl
    rw [e300, b_Stp_perform_300, v1, Option.bind_some, d3, sreg (by omega), Option.bind_some, b317, d11, t12, fu (show 35 ≠ m + 7 by omega), fu (show 35 ≠ m + 6 by omega)]
  · rw [kperf hk2 d2, if_pos (by omega), k44 ha d4 v2, d12]
    have e75 : up (up R A_registers a v) A_registerTags a (R MO 83) MO 75 = nI kd := by rw [fu (show MO ≠ A_registerTags by decide), fu (show MO ≠ A_registers by decide)]; exact d2
    rw [k72 hk2 e75 (by omega) (by omega) (by omega) (by omega) (by omega), k191 hk2 e75 (by omega) (by omega) (by omega) (by omega)]
  · rw [fu (show MO ≠ A_registerTags by decide), fu (show MO ≠ A_registers by decide), h50, if_neg (by omega)]
theorem perf_jmp {b n m kd a bb c pl : Nat} {C R : IM} (ps : PS b n m kd a bb c pl C R) (hk : kd = 0 ∨ kd = 13 ∨ kd = 14 ∨ kd = 15) : PG b n m C R kd := by
  obtain ⟨hn, hm, d, q1, q2, q3, q4, t12, t13, t14, h50⟩ := ps
  obtain ⟨hk2, ha, hb, hc, hpl, d1, d2, d3, d4, d5, d6, d7, d8, d9, d10, d11, d12, d13, d14, d15⟩ := d
  have kp := kperf (n := n) hk2 d2
  rw [if_neg (by omega)] at kp
  rcases hk with rfl | rfl | rfl | rfl
  · refine ⟨C, up R MO 50 1, nI pl, ?_, ?_, Q1_c q1 (fun _ _ _ => rfl) (fun b h1 h2 => fu (by show b ≠ 102; omega)) (up_ne (Or.inr (by decide))) (up_ne (Or.inr (by decide))), ?_, Q3_c q3 rfl rfl (fu (by decide)) (fu (by decide)) (up_ne (Or.inr (by decide))), Q4_c (by omega) q4 rfl (fu (by decide)) (up_ne (Or.inr (by decide))), ⟨fun _ _ _ => rfl, fun _ _ _ _ => rfl, fun b z1 _ => fu z1, fun j _ _ z3 _ => up_ne (Or.inr z3)⟩, by rw [up_self]; rfl⟩
    · unfold f_Stp_perform
      rw [d1, if_pos (by decide), b317, d11]
    · rw [kp, k72 hk2 d2 (by decide) (by decide) (by decide) (by decide) (by decide)]
      unfold b_Mod_perform_191
      rw [d2, if_neg (by decide), if_neg (by decide), if_neg (by decide), if_pos (by decide), lt, up_ne (Or.inr (by decide)), d12]
      rfl
    · unfold Q2 at q2 ⊢
      rw [up_ne (Or.inr (show 34 ≠ 50 by decide)), up_ne (Or.inr (show 44 ≠ 50 by decide)), up_ne (Or.inr (show 48 ≠ 50 by decide)), up_ne (Or.inr (show 51 ≠ 50 by decide)), up_ne (Or.inr (show 53 ≠ 50 by decide)), up_ne (Or.inr (show 54 ≠ 50 by decide)), up_ne (Or.inr (show 45 ≠ 50 by decide)), up_ne (Or.inr (show 52 ≠ 50 by decide)), up_ne (Or.inr (show 55 ≠ 50 by decide))]
      exact q2
  · refine ⟨C, R, R MO 79, ?_, ?_, q1, q2, q3, Q4_m q4, PF_0, by rw [h50]; rfl⟩
    · unfold f_Stp_perform
      rw [d1]
      show b_Stp_perform_317 n m (C 35 8) C = _
      rw [b317, d9]
    · rw [kp]
      unfold b_Mod_perform_72
      rw [d2]
      rfl
  · refine ⟨C, R, if R A_registers a = 0 then nI pl + 1 else R MO 79, ?_, ?_, q1, q2, q3, Q4_m q4, PF_0, by rw [h50]; rfl⟩
    · unfold f_Stp_perform
      rw [d1]
      show (chk (inb (C 35 5) 9) <| b_Stp_perform_317 n m (if (C (m + 6) (C 35 5).toNatClampNeg : Int32) = 0 then ((C 35 2) + 1) else (C 35 8)) C) = _
      rw [d3, chk_i (nki (by omega) (by decide)), nkc (by omega), (q1.2.2.1 a ha).1, b317, d11, d9]
    · rw [kp]
      unfold b_Mod_perform_72
      rw [d2]
      show (chk (inb (R MO 76) 8) <| if (R A_registers (R MO 76).toNatClampNeg : Int32) = 0 then (b_Mod_perform_191 n (R MO 42 + 1) R) else (b_Mod_perform_183 n R)) = _
      rw [d4, chk_i (nki ha (by decide)), nkc (by omega)]
      by_cases z : R A_registers a = 0
      · rw [if_pos z, if_pos z, k191 hk2 d2 (by decide) (by decide) (by decide) (by decide), d12]
      · rw [if_neg z, if_neg z]; rfl
  · refine ⟨C, R, R A_registers bb, ?_, ?_, q1, q2, q3, Q4_m q4, PF_0, by rw [h50]; rfl⟩
    · unfold f_Stp_perform
      rw [d1]
      show (chk (inb (C 35 6) 9) <| b_Stp_perform_317 n m (C (m + 6) (C 35 6).toNatClampNeg) C) = _
      rw [d5, chk_i (nki (by omega) (by decide)), nkc (by omega), (q1.2.2.1 bb hb).1, b317]
    · rw [kp, k72 hk2 d2 (by decide) (by decide) (by decide) (by decide) (by decide)]
      unfold b_Mod_perform_191
      rw [d2]
      show (chk (inb (R MO 77) 8) <| b_Mod_perform_334 n (R A_registers (R MO 77).toNatClampNeg) R) = _
      rw [d6, chk_i (nki hb (by decide)), nkc (by omega)]
      rfl
theorem perf_link {b n m a bb c pl : Nat} {C R : IM} (ps : PS b n m 16 a bb c pl C R) : PG b n m C R 16 := by
  obtain ⟨hn, hm, d, q1, q2, q3, q4, t12, t13, t14, h50⟩ := ps
  obtain ⟨hk2, ha, hb, hc, hpl, d1, d2, d3, d4, d5, d6, d7, d8, d9, d10, d11, d12, d13, d14, d15⟩ := d
  have mm := m35 hm
  obtain ⟨y2, y3, y4⟩ := Q234_reg (a := a) (v := nI pl + 1) (t := R MO 83) q2 q3 q4
  refine ⟨up (up C (m + 6) a (nI pl + 1)) (m + 7) a (R MO 83), up (up R A_registers a (nI pl + 1)) A_registerTags a (R MO 83), R MO 79, ?_, ?_, Q1_reg ha q1, y2, y3, y4, PF_reg, ?_⟩
  · unfold f_Stp_perform
    rw [d1]
    show (Option.bind (f_Mch_setRegister m (C 35 5) ((C 35 2) + 1) (C 35 12) C) fun v8 => b_Stp_perform_317 n m (v8 35 8) v8) = _
    rw [d3, sreg (by omega), Option.bind_some, b317, d11, t12, fu (show 35 ≠ m + 7 by omega), fu (show 35 ≠ m + 6 by omega), d9]
  · have hv : f_Mod_result R = some (nI pl + 1) := by
      unfold f_Mod_result
      rw [d6, d8, chk_i (nki hb (by decide)), chk_i (nki hc (by decide)), d2, d12]
      rfl
    rw [kperf hk2 d2, if_pos (by omega), k44 ha d4 hv]
    have e75 : up (up R A_registers a (nI pl + 1)) A_registerTags a (R MO 83) MO 75 = nI 16 := by rw [fu (show MO ≠ A_registerTags by decide), fu (show MO ≠ A_registers by decide)]; exact d2
    unfold b_Mod_perform_72
    rw [e75]
    show b_Mod_perform_183 n _ = _
    rw [b_Mod_perform_183, b_Mod_perform_334, fu (show MO ≠ A_registerTags by decide), fu (show MO ≠ A_registers by decide)]
  · rw [fu (show MO ≠ A_registerTags by decide), fu (show MO ≠ A_registers by decide), h50]; rfl
