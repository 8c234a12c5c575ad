/-! an attempt, on both sides: all ways -/
theorem sttR_n {V : IM} (h : ¬ V MO 82 = 0) : sttR V = V MO 82 := by
  unfold sttR
  rw [if_neg h]
theorem tlR_n {n : Nat} {V : IM} {en : Int32} (h : sttR V = en) (h0 : ¬ en = 0) : tlR n V = b_Mod_instruct_266 n (up V MO 50 en) := by
  unfold tlR
  rw [h, up_self, if_neg h0]
theorem tlR_0 {n kd : Nat} {V : IM} (hk : kd < 22) (h75 : V MO 75 = nI kd) (h : sttR V = 0) : tlR n V = if kd = 19 then (Option.bind (f_Mod_make n (up V MO 50 0)) fun v34 => if (v34.1 : Int32) = 0 then (b_Mod_instruct_266 n (up v34.2 MO 50 4)) else (b_Mod_instruct_266 n v34.2)) else b_Mod_instruct_266 n (up V MO 50 0) := by
  unfold tlR
  rw [h, up_self, if_pos rfl, up_ne (Or.inr (by decide)), h75]
  by_cases z : kd = 19
  · rw [if_pos z, if_pos ((kde hk 19 (by decide)).mpr z)]
  · rw [if_neg z, if_neg (fun y => z ((kde hk 19 (by decide)).mp y))]
theorem sttR_0 {V : IM} {kd : Nat} (hk : kd < 22) (h82 : V MO 82 = 0) (h75 : V MO 75 = nI kd) : sttR V = if kd = 11 ∨ kd = 12 then (if V MO 81 = 0 then 2 else 0) else (if kd = 18 then (if V MO 45 = 0 then 5 else 0) else 0) := by
  have e11 : (if nI kd = (11 : Int32) then 1 else (if nI kd = (12 : Int32) then 1 else 0) : Int32) = if kd = 11 ∨ kd = 12 then 1 else 0 := by
    by_cases z1 : kd = 11
    · rw [if_pos ((kde hk 11 (by decide)).mpr z1), if_pos (Or.inl z1)]
    · rw [if_neg (fun y => z1 ((kde hk 11 (by decide)).mp y))]
      by_cases z2 : kd = 12
      · rw [if_pos ((kde hk 12 (by decide)).mpr z2), if_pos (Or.inr z2)]
      · rw [if_neg (fun y => z2 ((kde hk 12 (by decide)).mp y)), if_neg (fun y => y.elim z1 z2)]
  unfold sttR
  rw [h82, if_pos rfl, h75, e11]
  by_cases z : kd = 11 ∨ kd = 12
  · rw [if_pos z, if_neg (by decide), if_pos z, if_neg (show ¬ nI kd = 18 from fun y => by have := (kde hk 18 (by decide)).mp y; omega)]
  · rw [if_neg z, if_pos rfl, if_neg z]
    by_cases z2 : kd = 18
    · rw [if_pos ((kde hk 18 (by decide)).mpr z2), if_pos z2]
    · rw [if_neg (fun y => z2 ((kde hk 18 (by decide)).mp y)), if_neg z2]
theorem hdr {n m kd : Nat} {G : IM} (hk : kd < 22) (h : G 35 4 = nI kd) : f_Stp_hindrance n m G = if kd = 11 ∨ kd = 12 then (Option.bind (f_Mch_hasWord m (G 35 9) G) fun v4 => if v4 = 0 then (some (2, G)) else some (0, G)) else (if kd = 18 then (if G (m + 13) 5 = 0 then some (5, G) else some (0, G)) else if kd = 19 then b_Stp_hindrance_40 n m G else some (0, G)) := by
  have e18 : nI kd = 18 ↔ kd = 18 := kde hk 18 (by decide)
  have e19 : nI kd = 19 ↔ kd = 19 := kde hk 19 (by decide)
  have e20 : ¬ kd = 18 → ¬ kd = 19 → b_Stp_hindrance_20 n m G = some (0, G) := fun z1 z2 => by
    rw [b_Stp_hindrance_20, h, if_neg (fun y => z1 (e18.mp y)), b_Stp_hindrance_40, h, if_neg (fun y => z2 (e19.mp y))]
  unfold f_Stp_hindrance
  rw [rchW hk h, Option.bind_some]
  by_cases z : kd = 11 ∨ kd = 12
  · rw [if_pos z, if_neg (by decide), if_pos z, e20 (by omega) (by omega)]
  · rw [if_neg z, if_pos rfl, if_neg z]
    by_cases z1 : kd = 18
    · rw [if_pos z1, b_Stp_hindrance_20, h, if_pos (e18.mpr z1), b_Stp_hindrance_40, h, if_neg (show ¬ nI kd = 19 from fun y => by have := e19.mp y; omega)]
      rfl
    · rw [if_neg z1]
      by_cases z2 : kd = 19
      · rw [if_pos z2, b_Stp_hindrance_20, h, if_neg (fun y => z1 (e18.mp y))]
      · rw [if_neg z2, e20 z1 z2]
set_option maxHeartbeats 4000000 in
theorem att_eq {A : AP} {p n m b : Nat} {tl : Int32 → Nat → Prop} {C R : IM} (ab : AB A p n m b tl C R) : ∃ dn C' R', f_Stp_attempt n m p C = some (dn, C') ∧ f_Mod_instruct n R = some (dn, R') ∧ ((dn = 0 ∧ ¬ R' MO 50 = 0) ∨ dn = 1) ∧ AT b m tl R C' R' := by
  obtain ⟨hn, hm, hp, wf, pc, pr, hat, h69, qa, hb, hbl, htl⟩ := ab
  have mm := m35 hm
  have w1 := wf.1
  have pne : ∀ j, j < 7 → p + j ≠ 35 ∧ p + j ≠ 37 ∧ ¬ (35 ≤ p + j ∧ p + j ≤ 38) ∧ (p + j < m ∨ m + 19 ≤ p + j) := fun j hj => by
    obtain ⟨a1, a2, a3, a4⟩ := polap hp (Or.inl rfl : isWrk 36) hm hj
    refine ⟨?_, a2, ?_, a4⟩ <;> rcases hp with rfl | rfl | rfl <;> omega
  obtain ⟨C0, hC0⟩ : ∃ z, z = up (up (up C 35 11 0) 35 12 0) 35 13 0 := ⟨_, rfl⟩
  have c0b : ∀ k, k ≠ 35 → C0 k = C k := fun k z => by rw [hC0, fu z, fu z, fu z]
  have c011 : C0 35 11 = 0 := by rw [hC0, up_ne (Or.inr (by decide)), up_ne (Or.inr (by decide)), up_self]
  have c012 : C0 35 12 = 0 := by rw [hC0, up_ne (Or.inr (by decide)), up_self]
  have c013 : C0 35 13 = 0 := by rw [hC0, up_self]
  have mv : ∀ (D Z : IM), (∀ k, k ≠ 35 → D k = C k) → (∀ k, k ≠ MO → Z k = R k) → (∀ j, ¬ (75 ≤ j ∧ j ≤ 81) → Z MO j = R MO j) → QA b tl D m Z := fun D Z h1 h2 h3 => QA_c (Nat.le_refl b) qa (fun i z1 z2 z3 => h1 _ (by omega)) (by rw [h1 m (by omega)]) (by rw [h1 m (by omega)]) (fun j _ => by rw [h1 _ (by omega)]) (fun k z1 z2 z3 => h2 k (by show k ≠ 102; omega)) (fun j hj => h3 j (fun z => by
    have : ∀ j, j ∈ [34, 42, 43, 44, 45, 48, 51, 52, 53, 54, 55, 58, 59, 63] → j < 75 := by decide
    have := this j hj
    omega))
  have e8 : C0 (m + 6) 8 = R MO 42 := by rw [c0b _ (by omega)]; exact qa.1.2.2.2.1
  by_cases hpl : ∃ pl, pl < 64 ∧ R MO 42 = nI pl
  rotate_left
  · -- no place in the code
    obtain ⟨D, hD⟩ : ∃ z, z = up (up C0 35 2 (R MO 42)) 35 4 (-1) := ⟨_, rfl⟩
    have db : ∀ k, k ≠ 35 → D k = C k := fun k z => by rw [hD, fu z, fu z, c0b k z]
    have d2 : D 35 2 = R MO 42 := by rw [hD, up_ne (Or.inr (by decide)), up_self]
    have tr : f_Stp_tryOut n m p C0 = some (2, D) := by
      have e8' : C0 (m + 6) (8 : Int32).toNatClampNeg = R MO 42 := e8
      rw [f_Stp_tryOut, e8', lt, lt, ← hD, d2]
      by_cases c1 : R MO 42 < 0
      · rw [if_pos c1]; rfl
      · have c2 : ¬ R MO 42 < 64 := fun z => by
          rw [ti] at z
          simp only [Int32.reduceToInt] at z
          exact hpl ⟨_, nat_lt c1 z, nof c1⟩
        rw [if_neg c1, if_neg c2]; rfl
    obtain ⟨C', R', f1, f2, f3, f9⟩ := end_w (n := n) (p := p) (C := D) (R := up R MO 75 0) (px := R MO 42) (kx := -1) hm hb (mv D _ db (fun k z => fu z) (fun j z => up_ne (Or.inr (by omega)))) (by rw [db m (by omega)]; exact hbl) d2 (by rw [hD, up_self]) (by rw [hD, up_ne (Or.inr (by decide)), up_ne (Or.inr (by decide))]; exact c011) (by rw [hD, up_ne (Or.inr (by decide)), up_ne (Or.inr (by decide))]; exact c012) (by rw [hD, up_ne (Or.inr (by decide)), up_ne (Or.inr (by decide))]; exact c013)
    refine ⟨0, C', R', ?_, ?_, Or.inl ⟨rfl, f9⟩, f3.1, f3.2.1, f3.2.2.1, RF1_t (RF1_m (by decide)) f3.2.2.2⟩
    · rw [attN (en := 2) (Ct := D) (by rw [← hC0]; exact tr) (by decide) (by decide), f1]
    · rw [dcP hpl, f2, Option.bind_some]
  obtain ⟨pl, hpl, e42⟩ := hpl
  obtain ⟨v, hv⟩ : ∃ v, v = R A_code pl := ⟨_, rfl⟩
  obtain ⟨kx, hkx, ek⟩ := and31 (x := v)
  obtain ⟨a, ha, ea⟩ := and7 (x := v >>> ((5 : Int32) &&& 31))
  obtain ⟨bb, hbb, eb⟩ := and7 (x := v >>> ((8 : Int32) &&& 31))
  obtain ⟨c, hc, ec⟩ := and7 (x := v >>> ((11 : Int32) &&& 31))
  have ev : C0 (m + 1) pl = v := by rw [c0b _ (by omega), hv]; exact (qa.1.1 pl hpl).1
  obtain ⟨D, fD, db, D2, D3, D4, D5, D6, D7, D8, D9, D10⟩ := dcC (n := n) (p := p) hm hpl hbb (e8.trans e42) ev ek ea eb ec
  have dbC : ∀ k, k ≠ 35 → D k = C k := fun k z => by rw [db k z, c0b k z]
  have pcD : PC A p D := PC_c (fun j hj => dbC _ (pne j hj).1) pc
  by_cases hr : kx < 22 ∧ ∃ q, q < aNr A ∧ aRo A kx = nI q
  rotate_left
  · -- no rule
    have tr : f_Stp_tryOut n m p C0 = some (2, D) := by
      have h0 : f_Pol_hasRule p (nI kx) D = some 0 := by
        rw [f_Pol_hasRule, if_neg (show ¬ nI kx < 0 from fun z => by have := (nlt (b := 0) (by omega) (by decide)).mp z; omega)]
        by_cases z : kx < 22
        · rcases wf.2.2.2.2.2.2.2.1 kx z with y | y
          · rw [if_neg (show ¬ (22 : Int32) ≤ nI kx from nk (N := 22) z (by decide)), chk_i (nki z (by decide)), nkc (by omega), (pcD.1 kx z).1 y, if_pos rfl]
          · exact absurd ⟨z, y⟩ hr
        · rw [if_pos (show (22 : Int32) ≤ nI kx from (nle (a := 22) (by decide) (by omega)).mpr (by omega))]
          rw [b_Pol_hasRule_27, b_Pol_hasRule_28, chk_i (Or.inl rfl)]
      rw [fD, h0, Option.bind_some, if_pos rfl]
    obtain ⟨C', R', f1, f2, f3, f9⟩ := end_w (n := n) (p := p) (C := D) (R := up R MO 75 (nI kx)) (px := nI pl) (kx := nI kx) hm hb (mv D _ dbC (fun k z => fu z) (fun j z => up_ne (Or.inr (by omega)))) (by rw [dbC m (by omega)]; exact hbl) D2 D4 (by rw [D10 11 (by decide)]; exact c011) (by rw [D10 12 (by decide)]; exact c012) (by rw [D10 13 (by decide)]; exact c013)
    refine ⟨0, C', R', ?_, ?_, Or.inl ⟨rfl, f9⟩, f3.1, f3.2.1, f3.2.2.1, RF1_t (RF1_m (by decide)) f3.2.2.2⟩
    · rw [attN (en := 2) (Ct := D) (by rw [← hC0]; exact tr) (by decide) (by decide), f1]
    · rw [dcN hpl hkx e42 hv.symm ek (by
        by_cases z : kx < 22
        · rcases wf.2.2.2.2.2.2.2.1 kx z with y | y
          · have := (pr.1 kx z).1 y
            rw [Nat.zero_add] at this
            exact Or.inr this
          · exact absurd ⟨z, y⟩ hr
        · exact Or.inl z), f2, Option.bind_some]
  obtain ⟨hk, q, hq, e⟩ := hr
  have er := (pr.1 kx hk).2 q hq e
  simp only [Nat.zero_add] at er
  obtain ⟨R3, fR, r3b, r3m, r75, r76, r77, r78, r79, r80, r81a, r81b⟩ := dcR (n := n) hpl hk hbb e42 hv.symm ek ea eb ec er (by omega)
  have qa3 : QA b tl D m R3 := mv D R3 dbC r3b r3m
  have eqb : C0 (m + 6) bb = R A_registers bb := by rw [c0b _ (by omega)]; exact (qa.1.2.2.1 bb hbb).1
  have dec3 : DEC D R3 kx a bb c pl := ⟨hk, ha, hbb, hc, hpl, D4, r75, D5, r76, D6, r77, D7, r78, by rw [D8, r79], by rw [D9, r80, eqb], D2, by rw [r3m 42 (by decide)]; exact e42, by rw [D3, c0b _ (by omega), r3b _ (by decide)]; exact (qa.1.1 pl hpl).2, r81a, r81b⟩
  have h69' : R3 MO 69 = 0 := by rw [r3m 69 (by decide)]; exact h69
  have nve := nv_eq hm dec3 qa3.1 qa3.2.1 qa3.2.2.1 h69'
  obtain ⟨vl, hvl⟩ : ∃ vl : Nat → Int32, ∀ k, k < 15 → f_Stp_nameValue m (nI k) D = some (vl k) ∧ f_Mod_nameValue (nI k) R3 = some (vl k) := ⟨fun k => (f_Mod_nameValue (nI k) R3).getD 0, fun k hk15 => by
    obtain ⟨u, u1, u2⟩ := nve k hk15
    dsimp only
    rw [u1, u2]
    exact ⟨rfl, rfl⟩⟩
  have n37 : ∀ i, i < 19 → m + i ≠ 37 := fun i hi => (mne hm hi).2.2.1
  obtain ⟨F, fF, fb, fq, fo⟩ := fq_l (n := n) (m := m) (nm := aNm A q) (C0 := up D 37 0 (nI kx)) (vl := vl) (fun k hk15 D' hD' => by rw [nvc_c (C := D) hm (fun b hb2 => by rw [hD' b hb2, fu hb2])]; exact (hvl k hk15).1) 15 n 0 (up D 37 0 (nI kx)) (by omega) (by omega) (fun _ _ => rfl)
  have fbD : ∀ k, k ≠ 37 → F k = D k := fun k z => by rw [fb k z, fu z]
  have f370 : F 37 0 = nI kx := by rw [fo 0 (Or.inl (by omega)), up_self]
  have fill : f_Stp_fillQuestion n m (D (p + 5) (nI kx).toNatClampNeg) D = some F := by
    rw [nkc (by omega), ((pcD.1 kx hk).2 q hq e).1, f_Stp_fillQuestion, D4, lt]
    exact fF
  obtain ⟨dt, hdt⟩ : ∃ dt : Int32, (kx = 21 → dt = R3 A_registerTags a) ∧ (¬ kx = 21 → dt = 0) := by
    by_cases z : kx = 21
    · exact ⟨_, fun _ => rfl, fun y => absurd z y⟩
    · exact ⟨0, fun y => absurd y z, fun _ => rfl⟩
  obtain ⟨dw, hdw⟩ : ∃ dw : Int32, (∀ w, w < 96 → kx = 12 → R3 MO 80 = nI w → dw = R3 A_owners w) ∧ ((¬ kx = 12 ∨ ¬ inW (R3 MO 80)) → dw = 0) := by
    by_cases z : kx = 12 ∧ inW (R3 MO 80)
    · obtain ⟨w, hw, ew⟩ := inW_n z.2
      refine ⟨R3 A_owners w, fun w' hw' _ ew' => ?_, fun y => ?_⟩
      · rw [ew] at ew'
        rw [nij (by omega) (by omega) ew']
      · rcases y with y | y
        · exact absurd z.1 y
        · exact absurd z.2 y
    · refine ⟨0, fun w hw k12 ew => ?_, fun _ => rfl⟩
      exact absurd ⟨k12, by rw [ew]; exact ⟨fun z => by have := (nlt (b := 0) (by omega) (by decide)).mp z; omega, (nlt (b := 96) (by omega) (by decide)).mpr hw⟩⟩ z
  have k12e : R3 MO 75 = 12 ↔ kx = 12 := by rw [r75]; exact kde hk 12 (by decide)
  have k21e : R3 MO 75 = 21 ↔ kx = 21 := by rw [r75]; exact kde hk 21 (by decide)
  have qaF : QA b tl F m R3 := QA_c (Nat.le_refl b) qa3 (fun i z1 z2 z3 => fbD _ (n37 i z1)) (by rw [fbD m (n37 0 (by decide))]) (by rw [fbD m (n37 0 (by decide))]) (fun j _ => by rw [fbD _ (n37 13 (by decide))]) (fun _ _ _ _ => rfl) (fun _ _ => rfl)
  have as : AS A p q n m kx tl vl dt dw F R3 := by
    refine ⟨hn, hm, hp, wf, PC_c (fun j hj => fbD _ (pne j hj).2.1) pcD, PR_c (r3b _ (by decide)) (r3b _ (by decide)) (r3b _ (by decide)) (r3b _ (by decide)) (r3b _ (by decide)) (r3b _ (by decide)) (r3b _ (by decide)) (r3b _ (by decide)) (r3b _ (by decide)) pr, hq, hk, e, by rw [fbD 35 (by decide)]; exact D4, r75, h69', fun k hk15 => (hvl k hk15).2, f370, fun k hk15 => fq k (by omega) hk15, ⟨fun z => ⟨by rw [r76]; exact nki ha (by decide), by rw [r76, nkc (by omega)]; exact hdt.1 (k21e.mp z)⟩, fun z => hdt.2 (fun y => z (k21e.mpr y))⟩, ⟨fun z z2 => ?_, fun z => hdw.2 ?_⟩, fun k hk96 => (qaF.1.2.1 k hk96).2.2, qaF.2.1, qaF.2.2.2.2.1, qaF.2.2.2.2.2.1, qaF.2.2.2.2.2.2.1, qaF.2.2.2.2.2.2.2.2, htl kx q hk hq e, fun s hs => by rw [r3b _ (by decide)]; exact hat s hs⟩
    · have iw : inW (R3 MO 80) := by
        by_cases y : inW (R3 MO 80)
        · exact y
        · exact absurd (r81b y) z2
      obtain ⟨w, hw, ew⟩ := inW_n iw
      rw [ew, nkc (by omega)]
      exact ⟨nki hw (by decide), hdw.1 w hw (k12e.mp z) ew⟩
    · rcases z with z | z
      · exact Or.inl (fun y => z (k12e.mpr y))
      · exact Or.inr (fun y => by rw [r81a y] at z; exact absurd z (by decide))
  obtain ⟨G, V, fG, fV, g1, g2, g3, v1, v2, n11, e11, w2, w5, w6, w8, wc, un, out⟩ := ask_eq as
  have v2' : ∀ j, j < 53 ∨ (69 ≤ j ∧ j < 82) → V MO j = R3 MO j := fun j hj => v2 j (by
    unfold noJ
    simp only [List.mem_cons, List.not_mem_nil, or_false, not_or]
    omega)
  have gb : ∀ i, i < 19 → ¬ (11 ≤ i ∧ i ≤ 16) → G (m + i) = F (m + i) := fun i hi z => g1 _ (by have := mne hm hi; omega) (by omega)
  have vb : ∀ k, k ≠ MO → ¬ (129 ≤ k ∧ k ≤ 133) → k ≠ 135 → k ≠ 140 → V k = R3 k := v1
  have qaG : QA b tl G m V := by
    obtain ⟨x1, x2, x3, x4, x5, x6, x8, x9, xc⟩ := qaF
    exact ⟨Q1_c x1 (fun i z1 z2 => gb i (by omega) (by omega)) (fun k z1 z2 => vb k (by show k ≠ 102; omega) (by omega) (by omega) (by omega)) (v2' 42 (by omega)) (v2' 43 (by omega)), w2, Q3_c x3 (gb 8 (by decide) (by decide)) (gb 9 (by decide) (by decide)) (vb _ (by decide) (by decide) (by decide) (by decide)) (vb _ (by decide) (by decide) (by decide) (by decide)) (v2' 45 (by omega)), Q4_c (Nat.le_refl b) x4 (gb 10 (by decide) (by decide)) (vb _ (by decide) (by decide) (by decide) (by decide)) (v2' 48 (by omega)), w5, w6, w8, Q9_c (Nat.le_refl b) x9 (gb 17 (by decide) (by decide)) (gb 18 (by decide) (by decide)) (vb _ (by decide) (by decide) (by decide) (by decide)) (v2 63 (by decide)), wc⟩
  obtain ⟨G2, hG2⟩ : ∃ z, z = up G m 2 (G 37 5) := ⟨_, rfl⟩
  have g2b : ∀ k, k ≠ m → G2 k = G k := fun k z => by rw [hG2, fu z]
  have g235 : ∀ j, j ≠ 11 → G2 35 j = D 35 j := fun j z => by rw [g2b 35 (by omega), g2 j z, fbD 35 (by decide)]
  have g211 : G2 35 11 = G 35 11 := by rw [g2b 35 (by omega)]
  have qaG2 : QA b tl G2 m V := QA_c (Nat.le_refl b) qaG (fun i z1 z2 z3 => g2b _ (by omega)) (by rw [hG2, up_ne (Or.inr (by decide))]) (by rw [hG2, up_ne (Or.inr (by decide))]) (fun j _ => by rw [g2b _ (by omega)]) (fun _ _ _ _ => rfl) (fun _ _ => rfl)
  have tr : f_Stp_tryOut n m p C0 = if G 37 1 = 0 then (Option.bind (f_Stp_hindrance n m G2) fun v20 => b_Stp_tryOut_127 n m p v20.1 v20.2) else (b_Stp_tryOut_127 n m p (G 37 1) G2) := by
    rw [fD, hasR wf pcD hk hq e, Option.bind_some, if_neg (by decide), chk_i (nki hk (by decide)), fill, Option.bind_some, fG, Option.bind_some, ← hG2]
  have rfV : RF1 R V := by
    refine ⟨fun k z1 z2 z3 => by rw [vb k z1 (by omega) (by omega) z3, r3b k z1], fun j hj => ?_⟩
    have : ∀ j, j ∈ [0, 2, 15, 18, 23, 32, 69, 71] → (j < 53 ∨ (69 ≤ j ∧ j < 82)) ∧ ¬ (75 ≤ j ∧ j ≤ 81) := by decide
    obtain ⟨z1, z2⟩ := this j hj
    rw [v2' j z1, r3m j z2]
  have v42 : V MO 42 = nI pl := by rw [v2' 42 (by omega), r3m 42 (by decide)]; exact e42
  have v75 : V MO 75 = nI kx := by rw [v2' 75 (by omega)]; exact r75
  -- the end of one that isn't done
  have nd : ∀ (en : Int32) (G3 : IM), (∀ k, k ≠ 35 → G3 k = G2 k) → (∀ j, j ≠ 10 → G3 35 j = G2 35 j) → ¬ en = 0 → ¬ en = 1 → G 37 5 = (if en = 3 then V MO 68 else -1) → f_Stp_tryOut n m p C0 = some (en, G3) → tlR n V = b_Mod_instruct_266 n (up V MO 50 en) → ∃ dn C' R', f_Stp_attempt n m p C = some (dn, C') ∧ f_Mod_instruct n R = some (dn, R') ∧ ((dn = 0 ∧ ¬ R' MO 50 = 0) ∨ dn = 1) ∧ AT b m tl R C' R' := by
    intro en G3 x1 x2 en0 en1 xb xt xr
    have qa4 : QA b tl G3 m V := QA_c (Nat.le_refl b) qaG2 (fun i z1 z2 z3 => x1 _ (by have := mne hm z1; omega)) (by rw [x1 m (by omega)]) (by rw [x1 m (by omega)]) (fun j _ => by rw [x1 _ (by omega)]) (fun _ _ _ _ => rfl) (fun _ _ => rfl)
    obtain ⟨C', R', f1, f2, f3, f9⟩ := end_n (n := n) (p := p) (kd := kx) (pl := pl) (C := G3) (R := V) (en := en) hm hb hk qa4 (by rw [x1 m (by omega), hG2, up_self]; exact xb) (by rw [x2 2 (by decide), g235 2 (by decide)]; exact D2) v42 (by rw [x2 4 (by decide), g235 4 (by decide)]; exact D4) v75 (by rw [x2 11 (by decide), g211]; exact e11) (by rw [x2 11 (by decide), g211]; exact n11) (by rw [x2 12 (by decide), g235 12 (by decide), D10 12 (by decide)]; exact c012) (by rw [x2 13 (by decide), g235 13 (by decide), D10 13 (by decide)]; exact c013) en0
    refine ⟨0, C', R', ?_, ?_, Or.inl ⟨rfl, f9⟩, f3.1, f3.2.1, f3.2.2.1, RF1_t rfV f3.2.2.2⟩
    · rw [attN (en := en) (Ct := G3) (by rw [← hC0]; exact xt) en0 en1, f1]
    · rw [fR, fV, Option.bind_some, xr, f2]
  have id127 : ∀ (en : Int32) (Z : IM), ¬ en = 0 → b_Stp_tryOut_127 n m p en Z = some (en, Z) := fun en Z z => by rw [b_Stp_tryOut_127, if_neg z]
  rcases out with ⟨o1, o2, o3, o4⟩ | ⟨o1, o2, o3⟩ | ⟨o1, o2, o3⟩
  rotate_left
  · -- a violation
    refine nd 3 G2 (fun _ _ => rfl) (fun _ _ => rfl) (by decide) (by decide) (by rw [if_pos rfl]; exact o3) ?_ (tlR_n (by rw [sttR_n (by rw [o2]; decide), o2]) (by decide))
    rw [tr, o1, if_neg (by decide), id127 3 G2 (by decide)]
  · -- no room for a pair
    refine nd 4 G2 (fun _ _ => rfl) (fun _ _ => rfl) (by decide) (by decide) (by rw [if_neg (by decide)]; exact o3) ?_ (tlR_n (by rw [sttR_n (by rw [o2]; decide), o2]) (by decide))
    rw [tr, o1, if_neg (by decide), id127 4 G2 (by decide)]
  rw [o1, if_pos rfl] at tr
  have st0 := sttR_0 hk o2 v75
  have d4' : G2 35 4 = nI kx := by rw [g235 4 (by decide)]; exact D4
  rw [hdr hk d4'] at tr
  have o3n : ∀ en : Int32, ¬ en = 3 → G 37 5 = (if en = 3 then V MO 68 else -1) := fun en z => by rw [if_neg z]; exact o3
  have e9 : G2 35 9 = V MO 80 := by rw [g235 9 (by decide), D9, v2' 80 (by omega), r80, eqb]
  have r81a' : inW (V MO 80) → V MO 81 = 1 := by rw [v2' 80 (by omega), v2' 81 (by omega)]; exact r81a
  have r81b' : ¬ inW (V MO 80) → V MO 81 = 0 := by rw [v2' 80 (by omega), v2' 81 (by omega)]; exact r81b
  have e45 : G2 (m + 13) 5 = V MO 45 := qaG2.2.1.2.2.2.2.2.2.1
  -- nothing hinders
  have fin : ∀ (G3 : IM), (∀ k, k ≠ 35 → G3 k = G2 k) → (∀ j, j ≠ 10 → G3 35 j = G2 35 j) → f_Stp_tryOut n m p C0 = b_Stp_tryOut_127 n m p 0 G3 → sttR V = 0 → ((kx = 11 ∨ kx = 12) → inW (V MO 80)) → (kx = 18 → ¬ V MO 45 = 0) → (kx = 19 → ∃ M k, 1 ≤ M ∧ M ≤ 16 ∧ k + M ≤ 96 ∧ V A_registers bb = nI M ∧ (∀ D, f_Mod_in (nI M) 1 16 D = some 1) ∧ f_Mod_freeWords n (nI M) (up V MO 50 0) = some (nI k) ∧ G3 35 10 = nI k) → ∃ dn C' R', f_Stp_attempt n m p C = some (dn, C') ∧ f_Mod_instruct n R = some (dn, R') ∧ ((dn = 0 ∧ ¬ R' MO 50 = 0) ∨ dn = 1) ∧ AT b m tl R C' R' := by
    intro G3 x1 x2 xt xs xw xi xm
    have qa4 : QA b tl G3 m V := QA_c (Nat.le_refl b) qaG2 (fun i z1 z2 z3 => x1 _ (by have := mne hm z1; omega)) (by rw [x1 m (by omega)]) (by rw [x1 m (by omega)]) (fun j _ => by rw [x1 _ (by omega)]) (fun _ _ _ _ => rfl) (fun _ _ => rfl)
    have y35 : ∀ j, j ≠ 10 → j ≠ 11 → G3 35 j = D 35 j := fun j z1 z2 => by rw [x2 j z1, g235 j z2]
    have dG : DEC G3 V kx a bb c pl := by
      refine ⟨hk, ha, hbb, hc, hpl, ?_, v75, ?_, ?_, ?_, ?_, ?_, ?_, ?_, ?_, ?_, v42, ?_, r81a', r81b'⟩
      · rw [y35 4 (by decide) (by decide)]; exact D4
      · rw [y35 5 (by decide) (by decide)]; exact D5
      · rw [v2' 76 (by omega)]; exact r76
      · rw [y35 6 (by decide) (by decide)]; exact D6
      · rw [v2' 77 (by omega)]; exact r77
      · rw [y35 7 (by decide) (by decide)]; exact D7
      · rw [v2' 78 (by omega)]; exact r78
      · rw [y35 8 (by decide) (by decide), D8, v2' 79 (by omega), r79]
      · rw [x2 9 (by decide)]; exact e9
      · rw [y35 2 (by decide) (by decide)]; exact D2
      · rw [y35 3 (by decide) (by decide), D3, c0b _ (by omega), vb _ (by decide) (by decide) (by decide) (by decide), r3b _ (by decide)]; exact (qa.1.1 pl hpl).2
    have pcG : PC A p G3 := PC_c (fun j hj => by
      obtain ⟨z1, z2, z3, z4⟩ := pne j hj
      rw [x1 _ z1, g2b _ (by omega), g1 _ z3 (by omega), fbD _ z2, dbC _ z1]) pc
    have r37 : ∀ j, G3 37 j = G 37 j := fun j => by rw [x1 37 (by decide), g2b 37 (by have := n37 0 (by decide); omega)]
    obtain ⟨dn, C', R', f1, f2, f3, f4⟩ := fin_d (A := A) (q := q) (C := C) (G := G3) (V := V) (dt := dt) (dw := dw) hn hm hp hb hq e pcG qa4 dG ⟨fun z => by rw [vb _ (by decide) (by decide) (by decide) (by decide)]; exact hdt.1 z, hdt.2⟩ ⟨fun w hw z ew => by rw [vb _ (by decide) (by decide) (by decide) (by decide)]; exact hdw.1 w hw z (by rw [← v2' 80 (by omega)]; exact ew), fun z => hdw.2 (by rw [v2' 80 (by omega)] at z; exact z)⟩ (fun j hj z => by rw [un j hj z, v2' 43 (by omega)]) (fun j hj z => by rw [r37]; exact o4 j hj z) (by rw [x1 m (by omega), hG2, up_self]; exact o3) (by rw [x2 11 (by decide), g211]; exact e11) (by rw [x2 11 (by decide), g211]; exact n11) (by rw [← hC0]; exact xt) xw xi xm (tlR_0 hk v75 xs)
    exact ⟨dn, C', R', f1, by rw [fR, fV, Option.bind_some, f2], f3, f4.1, f4.2.1, f4.2.2.1, RF1_t rfV f4.2.2.2⟩
  by_cases k1 : kx = 11 ∨ kx = 12
  · rw [if_pos k1] at tr st0
    rw [e9] at tr
    by_cases iw : inW (V MO 80)
    · rw [hasW.1 iw, Option.bind_some, if_neg (by decide), Option.bind_some] at tr
      rw [r81a' iw, if_neg (by decide)] at st0
      exact fin G2 (fun _ _ => rfl) (fun _ _ => rfl) tr st0 (fun _ => iw) (fun z => by omega) (fun z => by omega)
    · rw [hasW.2 iw, Option.bind_some, if_pos rfl, Option.bind_some, id127 2 G2 (by decide)] at tr
      rw [r81b' iw, if_pos rfl] at st0
      exact nd 2 G2 (fun _ _ => rfl) (fun _ _ => rfl) (by decide) (by decide) (o3n 2 (by decide)) tr (tlR_n st0 (by decide))
  rw [if_neg k1] at tr st0
  by_cases k18 : kx = 18
  · rw [if_pos k18] at tr st0
    rw [e45] at tr
    by_cases z : V MO 45 = 0
    · rw [if_pos z, Option.bind_some, id127 5 G2 (by decide)] at tr
      rw [if_pos z] at st0
      exact nd 5 G2 (fun _ _ => rfl) (fun _ _ => rfl) (by decide) (by decide) (o3n 5 (by decide)) tr (tlR_n st0 (by decide))
    · rw [if_neg z, Option.bind_some] at tr
      rw [if_neg z] at st0
      exact fin G2 (fun _ _ => rfl) (fun _ _ => rfl) tr st0 (fun y => absurd y k1) (fun _ => z) (fun y => by omega)
  rw [if_neg k18] at tr st0
  by_cases k19 : kx = 19
  rotate_left
  · rw [if_neg k19, Option.bind_some] at tr
    exact fin G2 (fun _ _ => rfl) (fun _ _ => rfl) tr st0 (fun y => absurd y k1) (fun y => absurd y k18) (fun y => absurd y k19)
  rw [if_pos k19] at tr
  obtain ⟨V0, hV0⟩ : ∃ z, z = up V MO 50 0 := ⟨_, rfl⟩
  have regb : G2 (m + 6) bb = V0 A_registers bb := by rw [hV0, fu (by decide)]; exact (qaG2.1.2.2.1 bb hbb).1
  obtain ⟨x, hx⟩ : ∃ x, x = V0 A_registers bb := ⟨_, rfl⟩
  have g6 : G2 35 6 = nI bb := by rw [g235 6 (by decide)]; exact D6
  have t40 : b_Stp_hindrance_40 n m G2 = Option.bind (f_Mch_freePlace n m x G2) fun v11 => some (if v11 = -1 then 4 else 0, up G2 35 10 v11) := by
    rw [b_Stp_hindrance_40, d4', if_pos ((kde hk 19 (by decide)).mpr k19), g6, chk_i (nki (by omega) (by decide)), nkc (by omega), regb, ← hx]
    simp only [lt, up_self]
  rw [t40] at tr
  have v77 : V0 MO 77 = nI bb := by rw [hV0, up_ne (Or.inr (by decide)), v2' 77 (by omega)]; exact r77
  have hm0 : f_Mod_make n V0 = Option.bind (f_Mod_in x 1 16 V0) fun v2 => if v2 = 0 then (b_Mod_make_29 n x (-1) V0) else (Option.bind (f_Mod_freeWords n x V0) fun v5 => b_Mod_make_29 n x v5 V0) := by
    rw [f_Mod_make, v77, chk_i (nki hbb (by decide)), nkc (by omega), ← hx]
  have tl0 := tlR_0 (n := n) hk v75 st0
  rw [if_pos k19, ← hV0] at tl0
  have none4 : f_Mod_make n V0 = some (0, V0) → f_Mch_freePlace n m x G2 = some (-1) → ∃ dn C' R', f_Stp_attempt n m p C = some (dn, C') ∧ f_Mod_instruct n R = some (dn, R') ∧ ((dn = 0 ∧ ¬ R' MO 50 = 0) ∨ dn = 1) ∧ AT b m tl R C' R' := by
    intro y1 y2
    rw [y2, Option.bind_some, Option.bind_some, if_pos rfl, id127 4 _ (by decide)] at tr
    refine nd 4 (up G2 35 10 (-1)) (fun k z => fu z) (fun j z => up_ne (Or.inr z)) (by decide) (by decide) (o3n 4 (by decide)) tr ?_
    rw [tl0, y1, Option.bind_some, if_pos rfl, hV0, up_up]
  have m29 : b_Mod_make_29 n x (-1) V0 = some (0, V0) := by rw [b_Mod_make_29, if_neg (by decide)]
  rcases fp_eq (n := n) (m := m) (C := G2) (R := V0) (x := x) hn (fun k hk96 => by rw [hV0, fu (by decide)]; exact (qaG2.1.2.1 k hk96).2.2) with ⟨-, y1, y2⟩ | ⟨M, b1, b2, eM, y2, ⟨y3, y4⟩ | ⟨k, b3, y3, y4⟩⟩
  · exact none4 (by rw [hm0, y2, Option.bind_some, if_pos rfl, m29]) y1
  · exact none4 (by rw [hm0, y2, Option.bind_some, if_neg (by decide), y4, Option.bind_some, m29]) y3
  · rw [y3, Option.bind_some, Option.bind_some, if_neg (fun z => by
      have := congrArg Int32.toInt z
      rw [nI_toInt (by omega)] at this
      simp only [Int32.reduceToInt] at this
      omega)] at tr
    refine fin (up G2 35 10 (nI k)) (fun k z => fu z) (fun j z => up_ne (Or.inr z)) tr st0 (fun y => absurd y k1) (fun y => absurd y k18) (fun _ => ⟨M, k, b1, b2, b3, ?_, fun D => ?_, ?_, up_self⟩)
    · rw [← eM, hx, hV0, fu (by decide)]
    · have c1 : ¬ nI M < 1 := fun z => by have := (nlt (b := 1) (by omega) (by decide)).mp z; omega
      have c2 : ¬ (16 : Int32) < nI M := fun z => by have := (nlt (a := 16) (by decide) (by omega)).mp z; omega
      simp [f_Mod_in, c1, c2, chk]
    · rw [← hV0, ← eM]; exact y4
