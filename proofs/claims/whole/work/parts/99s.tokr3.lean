/-! tokens: the reference's advance, in one -/
set_option maxHeartbeats 1000000 in
theorem rdR {T : Nat → Int32} {N n d g : Nat} {J : JM} {R : IM} (hJ : JOK J) (hn : 1000 ≤ n) (vt : VT T N) (hd : d ≤ N) (tx : TXr T N R) (h : R MO 13 = nI (N - d)) : ∃ R', l_Mod_advance_2 n J (g + 1) 0 R = some R' ∧ (∀ b, b ≠ MO → R' b = R b) ∧ (∀ j, j ≠ 10 → j ≠ 11 → j ≠ 12 → j ≠ 13 → R' MO j = R MO j) ∧ tokR (pTk T N d).1 (R' MO 10) ∧ R' MO 12 = nI (N - d) ∧ R' MO 13 = nI (N - (pTk T N d).2.2) ∧ ((pTk T N d).1 = 101 → R' MO 11 = (pTk T N d).2.1) := by
  have hN := vt.1
  obtain ⟨R2, hR2⟩ : ∃ z, z = up R MO 12 (nI (N - d)) := ⟨_, rfl⟩
  have tx2 : TXr T N R2 := by rw [hR2]; exact TXr_u tx (by decide)
  have r2b : ∀ b, b ≠ MO → R2 b = R b := fun b z => by rw [hR2, fu z]
  have r2m : ∀ j, j ≠ 12 → R2 MO j = R MO j := fun j z => by rw [hR2, up_ne (Or.inr z)]
  have r212 : R2 MO 12 = nI (N - d) := by rw [hR2, up_self]
  have r213 : R2 MO 13 = nI (N - d) := by rw [r2m 13 (by decide), h]
  have sg1 : f_Mod_sign (R2 MO 13) R2 = some (if d = 0 then 0 else T (N - d)) := by rw [r213]; exact sgR hN hd tx2
  unfold pTk
  by_cases c0 : d = 0
  · -- the end
    subst c0
    rw [if_pos rfl] at sg1 ⊢
    have sg2 : f_Mod_sign (R2 MO 13 + 1) R2 = some 0 := by
      rw [r213, nk1, Nat.sub_zero, f_Mod_sign, tx2.1, if_pos ((nle (by omega) (by omega)).mpr (by omega)), b_Mod_sign_18]
    refine ⟨up (up R2 MO 10 199) MO 13 (nI (N - 0)), ?_, fun b z => by rw [fu z, fu z, r2b b z], fun j z1 z2 z3 z4 => by rw [up_ne (Or.inr z4), up_ne (Or.inr z1), r2m j z3], ⟨fun _ => by rw [up_ne (Or.inr (by decide)), up_self]; rfl, fun z => absurd z (by decide)⟩, by rw [up_ne (Or.inr (by decide)), up_ne (Or.inr (by decide)), r212], up_self, fun z => absurd z (by decide)⟩
    rw [l_Mod_advance_2, if_pos rfl, h, lt, ← hR2, sg1, Option.bind_some, inF, Option.bind_some, if_neg (show ¬ ((97 : Int32) ≤ 0 ∧ (0 : Int32) ≤ 122) by decide), if_pos rfl, inF, Option.bind_some, if_neg (show ¬ ((48 : Int32) ≤ 0 ∧ (0 : Int32) ≤ 57) by decide), if_pos rfl, sg2, Option.bind_some, if_neg (show ¬ (0 : Int32) = 61 by decide), if_pos rfl, if_pos rfl, b_Mod_advance_422, lt, if_pos rfl, up_ne (Or.inr (show 13 ≠ 10 by decide)), r213, lt]
    rfl
  rw [if_neg c0] at sg1 ⊢
  have hk : N - d < N := by omega
  obtain ⟨t1, t2, t3⟩ := vt_c vt hk
  by_cases c1 : 97 ≤ T (N - d) ∧ T (N - d) ≤ 122
  · -- a word
    rw [if_pos c1]
    have lt0 := ltR (n := n) (J := J) hN d n R2 hd (by omega) tx2 r213
    obtain ⟨r, w1, w2⟩ := wrdR (n := n) (J := J) (R := up R2 MO 13 (nI (N - pLr T N d))) hJ hn hN hd (TXr_u tx2 (by decide))
    refine ⟨up (up R2 MO 13 (nI (N - pLr T N d))) MO 10 r, ?_, fun b z => by rw [fu z, fu z, r2b b z], fun j z1 z2 z3 z4 => by rw [up_ne (Or.inr z1), up_ne (Or.inr z4), r2m j z3], by rw [up_self]; exact w2, by rw [up_ne (Or.inr (by decide)), up_ne (Or.inr (by decide)), r212], by rw [up_ne (Or.inr (by decide)), up_self], fun z => ?_⟩
    · rw [l_Mod_advance_2, if_pos rfl, h, lt, ← hR2, sg1, Option.bind_some, inF, Option.bind_some, if_pos c1, if_neg (by decide), lt0, r212, w1, Option.bind_some]
    · have z' : wix (pLw T N d) = 101 := z
      rcases wix_s (ls := pLw T N d) with ⟨y, -⟩ | ⟨y, -⟩ <;> omega
  rw [if_neg c1]
  by_cases c2 : 48 ≤ T (N - d) ∧ T (N - d) ≤ 57
  · -- a number
    rw [if_pos c2]
    obtain ⟨R', g1, g2, g3, g4, g5, g6⟩ := nuR (T := T) (n := n) (J := J) hN hd d n 0 0 (up R2 MO 11 0) (by omega) (by omega) (TXr_u tx2 (by decide)) (by rw [up_ne (Or.inr (by decide)), r212]) (by rw [up_ne (Or.inr (by decide)), r213]) up_self
    refine ⟨R', ?_, fun b z => by rw [g2 b z, fu z, r2b b z], fun j z1 z2 z3 z4 => by rw [g3 j z1 z2 z4, up_ne (Or.inr z2), r2m j z3], ?_, by rw [g3 12 (by decide) (by decide) (by decide), up_ne (Or.inr (by decide)), r212], g6, fun _ => g5⟩
    · rw [l_Mod_advance_2, if_pos rfl, h, lt, ← hR2, sg1, Option.bind_some, inF, Option.bind_some, if_neg c1, if_pos rfl, inF, Option.bind_some, if_pos c2, if_neg (by decide), lt, g1]
    · rw [g4]
      by_cases z : d - (pNv T N d 0 0).2 ≤ 7
      · rw [if_pos z, if_pos z]
        exact ⟨fun _ => rfl, fun y => absurd (show 101 = 102 from y) (by decide)⟩
      · rw [if_neg z, if_neg z]
        exact ⟨fun y => absurd rfl y, fun _ => Or.inl rfl⟩
  rw [if_neg c2]
  -- a sign
  have sg2 : f_Mod_sign (R2 MO 13 + 1) R2 = some (if d - 1 = 0 then 0 else T (N - d + 1)) := by
    rw [r213, nk1, show N - d + 1 = N - (d - 1) by omega]
    exact sgR hN (by omega) tx2
  have v0 : ¬ T (N - d) = 0 := fun z => by
    have : (T (N - d)).toNatClampNeg = 0 := by rw [z]; rfl
    omega
  obtain ⟨v, hv⟩ : ∃ v : Int32, v = if d - 1 = 0 then 0 else T (N - d + 1) := ⟨_, rfl⟩
  rw [← hv] at sg2
  have v61 : v = 61 ↔ 2 ≤ d ∧ T (N - d + 1) = 61 := by
    rw [hv]
    by_cases z : d - 1 = 0
    · rw [if_pos z]
      exact ⟨fun y => absurd y (by decide), fun y => by omega⟩
    · rw [if_neg z]
      exact ⟨fun y => ⟨by omega, y⟩, fun y => y.2⟩
  obtain ⟨tw, htw⟩ : ∃ tw : Int32, tw = if v = (61 : Int32) then (if T (N - d) = (61 : Int32) then 1 else (if T (N - d) = (33 : Int32) then 1 else (if T (N - d) = (60 : Int32) then 1 else 0))) else 0 := ⟨_, rfl⟩
  have head : l_Mod_advance_2 n J (g + 1) 0 R = if tw = 0 then (Option.bind (f_Mod_isSign (T (N - d)) R2) fun v19 => some (up (up R2 MO 10 (if v19 = 0 then 201 else T (N - d) + 400)) MO 13 (if tw = 0 then nI (N - d + 1) else nI (N - d + 2)))) else some (up (up R2 MO 10 (if T (N - d) = (61 : Int32) then 202 else (if T (N - d) = (33 : Int32) then 203 else 204))) MO 13 (if tw = 0 then nI (N - d + 1) else nI (N - d + 2))) := by
    have n2 : nI (N - d) + 2 = nI (N - d + 2) := nad (b := 2)
    rw [l_Mod_advance_2, if_pos rfl, h, lt, ← hR2, sg1, Option.bind_some, inF, Option.bind_some, if_neg c1, if_pos rfl, inF, Option.bind_some, if_neg c2, if_pos rfl, sg2, Option.bind_some, ← htw]
    by_cases z : tw = 0
    · rw [if_pos z, if_pos z, if_neg v0]
      simp only [lt, if_neg v0, if_pos z, up_ne (Or.inr (show 13 ≠ 10 by decide)), r213, nk1, b_Mod_advance_459]
    · rw [if_neg z, if_neg z]
      simp only [lt, if_neg v0, if_neg z, up_ne (Or.inr (show 13 ≠ 10 by decide)), r213, n2, b_Mod_advance_459]
  by_cases z : (T (N - d) = 61 ∨ T (N - d) = 33 ∨ T (N - d) = 60) ∧ 2 ≤ d ∧ T (N - d + 1) = 61
  · rw [if_pos z]
    have e1 : tw = 1 := by
      rw [htw, if_pos (v61.mpr z.2)]
      rcases z.1 with y | y | y <;> rw [y] <;> rfl
    rw [e1, if_neg (show ¬ (1 : Int32) = 0 by decide), if_neg (show ¬ (1 : Int32) = 0 by decide)] at head
    refine ⟨_, head, fun b y => by rw [fu y, fu y, r2b b y], fun j z1 z2 z3 z4 => by rw [up_ne (Or.inr z4), up_ne (Or.inr z1), r2m j z3], ?_, by rw [up_ne (Or.inr (by decide)), up_ne (Or.inr (by decide)), r212], by rw [up_self]; congr 1; show N - d + 2 = N - (d - 2); omega, fun y => ?_⟩
    · rw [up_ne (Or.inr (by decide)), up_self]
      show tokR (256 + (T (N - d)).toNatClampNeg) _
      refine ⟨fun _ => ?_, fun y => by omega⟩
      rcases z.1 with y | y | y <;> rw [y] <;> rfl
    · have y' : 256 + (T (N - d)).toNatClampNeg = 101 := y
      omega
  · rw [if_neg z]
    have e0 : tw = 0 := by
      rw [htw]
      by_cases y : v = 61
      · have y2 := v61.mp y
        rw [if_pos y, if_neg (fun w => z ⟨Or.inl w, y2⟩), if_neg (fun w => z ⟨Or.inr (Or.inl w), y2⟩), if_neg (fun w => z ⟨Or.inr (Or.inr w), y2⟩)]
      · rw [if_neg y]
    rw [e0, if_pos rfl, if_pos rfl, isg, Option.bind_some] at head
    refine ⟨_, head, fun b y => by rw [fu y, fu y, r2b b y], fun j z1 z2 z3 z4 => by rw [up_ne (Or.inr z4), up_ne (Or.inr z1), r2m j z3], ?_, by rw [up_ne (Or.inr (by decide)), up_ne (Or.inr (by decide)), r212], by rw [up_self]; congr 1; show N - d + 1 = N - (d - 1); omega, fun y => ?_⟩
    · rw [up_ne (Or.inr (by decide)), up_self]
      by_cases y : T (N - d) ∈ bs_sg
      · rw [if_pos y, if_pos y, if_neg (show ¬ (1 : Int32) = 0 by decide)]
        obtain ⟨m1, m2⟩ := sg_m _ t1 (by rw [← t3]; exact y)
        refine ⟨fun _ => ?_, fun w => absurd w m2⟩
        rw [m1, ← nad, ← t3]
        rfl
      · rw [if_neg y, if_neg y, if_pos rfl]
        exact ⟨fun w => absurd rfl w, fun _ => Or.inl rfl⟩
    · have y' : (if T (N - d) ∈ bs_sg then 128 + (T (N - d)).toNatClampNeg else 102) = 101 := y
      split at y' <;> omega
/-- the reference's reader stands at the k-th token -/
def RB (T : Nat → Int32) (N k : Nat) (R : IM) : Prop := TXr T N R ∧ tokR (tC T N k) (R MO 10) ∧ R MO 12 = nI (tP T N k) ∧ R MO 13 = nI (N - (pTk T N (qD T N k)).2.2) ∧ (tC T N k = 101 → R MO 11 = tV T N k)
theorem adv0 {T : Nat → Int32} {N n e k : Nat} {J : JM} {R : IM} (hJ : JOK J) (hn : 1000 ≤ n) (vt : VT T N) (he : e ≤ N) (hq : qD T N k = pSk T N e 0) (tx : TXr T N R) (h : R MO 13 = nI (N - e)) : ∃ R', f_Mod_advance n J R = some R' ∧ RB T N k R' ∧ (∀ b, b ≠ MO → R' b = R b) ∧ ∀ j, j ≠ 10 → j ≠ 11 → j ≠ 12 → j ≠ 13 → R' MO j = R MO j := by
  have hN := vt.1
  obtain ⟨g, g1, g2, g3⟩ := bkR (T := T) (n := n) (J := J) hn hN e n R he (by omega) tx h
  obtain ⟨g', hg'⟩ : ∃ g', g = g' + 1 := ⟨g - 1, by omega⟩
  have sl := sk_le (T := T) (N := N) e 0
  obtain ⟨R', r1, r2, r3, r4, r5, r6, r7⟩ := rdR (n := n) (g := g') (J := J) (R := up R MO 13 (nI (N - pSk T N e 0))) hJ hn vt (show pSk T N e 0 ≤ N by omega) (TXr_u tx (by decide)) up_self
  refine ⟨R', ?_, ⟨?_, ?_, ?_, ?_, ?_⟩, fun b hb => by rw [r2 b hb, fu hb], fun j z1 z2 z3 z4 => by rw [r3 j z1 z2 z3 z4, up_ne (Or.inr z4)]⟩
  · rw [f_Mod_advance, g1, hg', r1]
  · refine ⟨?_, fun j hj => ?_⟩
    · rw [r3 2 (by decide) (by decide) (by decide) (by decide), up_ne (Or.inr (by decide))]; exact tx.1
    · rw [r2 _ (by decide), fu (by decide)]; exact tx.2 j hj
  · unfold tC; rw [hq]; exact r4
  · unfold tP; rw [hq]; exact r5
  · rw [hq]; exact r6
  · unfold tC tV; rw [hq]; exact r7
theorem adR {T : Nat → Int32} {N n k : Nat} {J : JM} {R : IM} (hJ : JOK J) (hn : 1000 ≤ n) (vt : VT T N) (h : RB T N k R) : ∃ R', f_Mod_advance n J R = some R' ∧ RB T N (k + 1) R' ∧ (∀ b, b ≠ MO → R' b = R b) ∧ ∀ j, j ≠ 10 → j ≠ 11 → j ≠ 12 → j ≠ 13 → R' MO j = R MO j := adv0 hJ hn vt (Nat.le_trans tk_lt.1 (qD_le k)) rfl h.1 h.2.2.2.1
