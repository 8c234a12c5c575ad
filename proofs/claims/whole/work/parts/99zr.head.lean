/-! policy: a rule's head -/
def cnt (f : Nat → Int32) : Nat → Nat
  | 0 => 0
  | n + 1 => cnt f n + (if f n = -1 then 0 else 1)
theorem cnt_le {f : Nat → Int32} : ∀ n, cnt f n ≤ n
  | 0 => Nat.le_refl _
  | n + 1 => by
    have := cnt_le (f := f) n
    rw [cnt]
    split <;> omega
theorem cnt_all {f : Nat → Int32} : ∀ n, n ≤ cnt f n → ∀ k, k < n → f k ≠ -1
  | 0, _, k, hk => absurd hk (Nat.not_lt_zero _)
  | n + 1, h, k, hk => by
    have l := cnt_le (f := f) n
    rw [cnt] at h
    by_cases z : f n = -1
    · rw [if_pos z] at h; omega
    · rw [if_neg z] at h
      by_cases e : k = n
      · rw [e]; exact z
      · exact cnt_all n (by omega) k (by omega)
def upR (f : Nat → Int32) (k : Nat) (v : Int32) : Nat → Int32 := fun j => if j = k then v else f j
theorem cnt_u {f : Nat → Int32} {k : Nat} {v : Int32} (h : f k = -1) (hv : v ≠ -1) : ∀ n, cnt (upR f k v) n = cnt f n + (if k < n then 1 else 0)
  | 0 => by rw [if_neg (by omega)]; rfl
  | n + 1 => by
    rw [cnt, cnt, cnt_u h hv n]
    by_cases e : n = k
    · subst e
      rw [show upR f n v n = v from if_pos rfl, if_neg hv, h, if_pos rfl, if_neg (by omega), if_pos (by omega)]
    · rw [show upR f k v n = f n from if_neg e]
      by_cases z : k < n
      · rw [if_pos z, if_pos (show k < n + 1 by omega)]; omega
      · rw [if_neg z, if_neg (show ¬ k < n + 1 by omega)]; omega
theorem tb_o {a b : Int32} {k : Nat} : tbi (a ||| b) k ↔ tbi a k ∨ tbi b k := by
  refine ⟨fun h => ?_, fun h => h.elim tb_l tb_r⟩
  by_cases z : tbi a k
  · exact Or.inl z
  · refine Or.inr (fun y => h ?_)
    have z' : ((a >>> (nI k &&& 31)) &&& 1) = 0 := Classical.byContradiction fun w => z w
    rw [Int32.shiftRight_or, or_ds, z', y]
    rfl
theorem tb_1 : ∀ k, k < 22 → ∀ j, j < 22 → (((((1 : Int32) <<< (nI k &&& 31)) >>> (nI j &&& 31)) &&& 1) = 0 ↔ ¬ j = k) := by decide +kernel
/-- the rules of kinds: class and reference -/
def HC (ro : Nat → Int32) (C : IM) : Prop := ∀ j, j < 22 → (tbi (C 7 2) j ↔ ro j ≠ -1)
def HO (ro : Nat → Int32) (R : IM) : Prop := ∀ j, j < 22 → R A_ruleOf j = ro j
def RO (nr : Nat) (ro : Nat → Int32) : Prop := ∀ j, j < 22 → ro j = -1 ∨ ∃ q, q ≤ nr ∧ ro j = nI q
def KX (nr : Nat) (ro ro' : Nat → Int32) : Prop := ∀ j, j < 22 → (ro j ≠ -1 → ro' j = ro j) ∧ (ro j = -1 → ro' j = -1 ∨ ro' j = nI nr)
def RTh (T : Nat → Int32) (N k nr : Nat) (R : IM) : Prop := RB T N k R ∧ R MO 14 = -1 ∧ R MO 23 = nI nr
def CFk (C C' : IM) : Prop := (∀ b, b ≠ 1 → b ≠ 7 → C' b = C b) ∧ ∀ j, j ≠ 2 → C' 7 j = C 7 j
def RFk (R R' : IM) : Prop := (∀ b, b ≠ 102 → b ≠ 114 → R' b = R b) ∧ (∀ j, 22 ≤ j → R' A_ruleOf j = R A_ruleOf j) ∧ ∀ j, j ∉ [10, 11, 12, 13, 14] → R' MO j = R MO j
theorem CFk_t {A B C : IM} (h : CFk A B) (g : CFk B C) : CFk A C := ⟨fun b z1 z2 => (g.1 b z1 z2).trans (h.1 b z1 z2), fun j z => (g.2 j z).trans (h.2 j z)⟩
theorem RFk_t {A B C : IM} (h : RFk A B) (g : RFk B C) : RFk A C := ⟨fun b z1 z2 => (g.1 b z1 z2).trans (h.1 b z1 z2), fun j z => (g.2.1 j z).trans (h.2.1 j z), fun j z => (g.2.2 j z).trans (h.2.2 j z)⟩
theorem CFk_1 {C C' : IM} (h : ∀ b, b ≠ 1 → C' b = C b) : CFk C C' := ⟨fun b z _ => h b z, fun j _ => by rw [h 7 (by decide)]⟩
theorem CFk_0 {C : IM} : CFk C C := ⟨fun _ _ _ => rfl, fun _ _ => rfl⟩
theorem RFk_a {R R' : IM} (h : ∀ b, b ≠ MO → R' b = R b) (e : ∀ j, j ≠ 10 → j ≠ 11 → j ≠ 12 → j ≠ 13 → R' MO j = R MO j) : RFk R R' := by
  have e1 : ∀ b, b ≠ 102 → R' b = R b := h
  refine ⟨fun b z _ => e1 b z, fun j _ => by rw [e1 _ (by decide)], fun j z => ?_⟩
  simp only [List.mem_cons, List.not_mem_nil, or_false, not_or] at z
  exact e j z.1 z.2.1 z.2.2.1 z.2.2.2.1
theorem RFk_14 {R : IM} {v : Int32} : RFk R (up R MO 14 v) := ⟨fun b z _ => fu z, fun j _ => by rw [fu (by decide)], fun j z => up_ne (Or.inr (fun y => z (by rw [y]; decide)))⟩
theorem kdL {T : Nat → Int32} {N K n nr : Nat} (hn : 1000 ≤ n) (vt : VT T N) (hnr : nr < 500) : ∀ (d f i k : Nat) (ro : Nat → Int32) (C : IM), K - k ≤ d → d < f → RA T N K k C → HC ro C → RO nr ro → i ≤ cnt ro 22 → (∃ (C' : IM) (k' : Nat) (ro' : Nat → Int32), l_Prd_readKinds_2 n f (nI i) C = some (1, C') ∧ k < k' ∧ RA T N K k' C' ∧ HC ro' C' ∧ RO nr ro' ∧ KX nr ro ro' ∧ cnt ro 22 < cnt ro' 22 ∧ CFk C C' ∧ ∀ (J : JM), JOK J → ∀ R : IM, RTh T N k nr R → HO ro R → ∃ (s : Nat) (R' : IM), s + k ≤ k' ∧ (∀ f, l_Mod_heads_2 n J (f + s) 1 R = l_Mod_heads_2 n J f 0 R') ∧ RTh T N k' nr R' ∧ HO ro' R' ∧ RFk R R') ∨ (∃ (C' : IM) (k' : Nat), l_Prd_readKinds_2 n f (nI i) C = some (0, C') ∧ k ≤ k' ∧ RA T N K k' C' ∧ CFk C C' ∧ ∀ (J : JM), JOK J → ∀ R : IM, RTh T N k nr R → HO ro R → ∃ (s : Nat) (R' : IM), s + k ≤ k' + 1 ∧ (∀ f, l_Mod_heads_2 n J (f + s) 1 R = some R') ∧ R' MO 14 = nI (tP T N k') ∧ RFk R R') := by
  intro d
  induction d with
  | zero =>
    intro f i k ro C hd hf ra hc hr hi
    obtain ⟨g, rfl⟩ : ∃ g, f = g + 1 := ⟨f - 1, by omega⟩
    obtain ⟨kK, K9, hK⟩ := RA_K ra
    have tb := tC_b (k := k) vt
    have z : ¬ tC T N k < 22 := fun y => by
      have := kltK hK kK (by omega) (by omega)
      omega
    have z22 : (22 : Int32) ≤ C 1 1 := by rw [ra.2.2.2.2.1]; exact (nle (a := 22) (by decide) (by omega)).mpr (by omega)
    refine Or.inr ⟨C, k, ?_, Nat.le_refl _, ra, CFk_0, fun J hJ R rt ho => ⟨1, up R MO 14 (nI (tP T N k)), by omega, fun f => ?_, up_self, RFk_14⟩⟩
    · rw [l_Prd_readKinds_2]
      by_cases y : (22 : Int32) ≤ nI i
      · rw [if_pos y]
      · rw [if_neg y, if_pos z22, b_Prd_readKinds_33]
    · rw [l_Mod_heads_2, if_neg one0, rt.2.1, if_neg ng1, inF, if_neg (fun w => z ((in22_i vt rt.1).mp w)), Option.bind_some, if_pos rfl, b_Mod_heads_38, rFl rt.1 rt.2.1, Option.bind_some]
  | succ d ih =>
    intro f i k ro C hd hf ra hc hr hi
    obtain ⟨g, rfl⟩ : ∃ g, f = g + 1 := ⟨f - 1, by omega⟩
    obtain ⟨kK, K9, hK⟩ := RA_K ra
    have tb := tC_b (k := k) vt
    have e11 : C 1 1 = nI (tC T N k) := ra.2.2.2.2.1
    have i22 := cnt_le (f := ro) 22
    by_cases z : tC T N k < 22
    rotate_left
    · have z22 : (22 : Int32) ≤ C 1 1 := by rw [e11]; exact (nle (a := 22) (by decide) (by omega)).mpr (by omega)
      refine Or.inr ⟨C, k, ?_, Nat.le_refl _, ra, CFk_0, fun J hJ R rt ho => ⟨1, up R MO 14 (nI (tP T N k)), by omega, fun f => ?_, up_self, RFk_14⟩⟩
      · rw [l_Prd_readKinds_2]
        by_cases y : (22 : Int32) ≤ nI i
        · rw [if_pos y]
        · rw [if_neg y, if_pos z22, b_Prd_readKinds_33]
      · rw [l_Mod_heads_2, if_neg one0, rt.2.1, if_neg ng1, inF, if_neg (fun w => z ((in22_i vt rt.1).mp w)), Option.bind_some, if_pos rfl, b_Mod_heads_38, rFl rt.1 rt.2.1, Option.bind_some]
    obtain ⟨t, ht⟩ : ∃ t, tC T N k = t := ⟨_, rfl⟩
    rw [ht] at z tb e11
    have n22 : ¬ (22 : Int32) ≤ C 1 1 := by rw [e11]; exact fun y => by have := (nle (a := 22) (by decide) (by omega)).mp y; omega
    have r10 : ∀ R : IM, RTh T N k nr R → R MO 10 = nI t := fun R rt => by
      rw [rt.1.2.1.1 (by omega), ht]
      have : m2r t = t := if_pos z
      rw [this]
    have r22 : ∀ R : IM, RTh T N k nr R → (0 ≤ R MO 10 ∧ R MO 10 ≤ 21) := fun R rt => (in22_i vt rt.1).mpr (by omega)
    have i44 : inb (nI t) 44 := nki (by omega) (by decide)
    by_cases y : ro t = -1
    rotate_left
    · have ps : ¬ ro t < 0 := by
        rcases hr t z with w | ⟨q, w1, w2⟩
        · exact absurd w y
        · rw [w2]; exact fun w => by have := (nlt (b := 0) (by omega) (by decide)).mp w; omega
      refine Or.inr ⟨C, k, ?_, Nat.le_refl _, ra, CFk_0, fun J hJ R rt ho => ⟨1, up R MO 14 (nI (tP T N k)), by omega, fun f => ?_, up_self, RFk_14⟩⟩
      · rw [l_Prd_readKinds_2]
        by_cases w : (22 : Int32) ≤ nI i
        · rw [if_pos w]
        · rw [if_neg w, if_neg n22, e11, if_neg ((hc t z).mpr y), b_Prd_readKinds_33]
      · rw [l_Mod_heads_2, if_neg one0, rt.2.1, if_neg ng1, inF, if_pos (r22 R rt), Option.bind_some, if_neg one0, r10 R rt, chk_i i44, nkc (by omega), ho t z, if_neg ps, b_Mod_heads_38, rFl rt.1 rt.2.1, Option.bind_some]
    have hlt : i < 22 := by
      by_cases w : i < 22
      · exact w
      · exact absurd y (cnt_all 22 (by omega) t z)
    have ni : ¬ (22 : Int32) ≤ nI i := fun w => by have := (nle (a := 22) (by decide) (by omega)).mp w; omega
    have kl : k < K := kltK hK kK (by omega) (by omega)
    obtain ⟨D, hD⟩ : ∃ D, D = up C 7 2 ((C 7 2) ||| ((1 : Int32) <<< (nI t &&& 31))) := ⟨_, rfl⟩
    have raD : RA T N K k D := by rw [hD]; exact RA_u ra (by decide)
    obtain ⟨C1, a1, a2, a3⟩ := adC vt raD kl
    have nv : nI nr ≠ -1 := fun w => by
      have h0 : (0 : Int32) ≤ nI nr := (nle (a := 0) (by decide) (by omega)).mpr (Nat.zero_le _)
      rw [w] at h0; exact ng1 h0
    have cf : CFk C C1 := CFk_t (by rw [hD]; exact ⟨fun b _ w => fu w, fun j w => up_ne (Or.inr w)⟩) (CFk_1 a3)
    have cu : cnt (upR ro t (nI nr)) 22 = cnt ro 22 + 1 := by rw [cnt_u y nv, if_pos z]
    have hc1 : HC (upR ro t (nI nr)) C1 := fun j hj => by
      rw [a3 7 (by decide), hD, up_self, tb_o, hc j hj]
      have e : tbi ((1 : Int32) <<< (nI t &&& 31)) j ↔ j = t := by
        unfold tbi
        rw [tb_1 t z j hj]
        exact ⟨fun w => Classical.byContradiction fun v => w v, fun w v => v w⟩
      rw [e]
      by_cases w : j = t
      · rw [w, show upR ro t (nI nr) t = nI nr from if_pos rfl]
        exact ⟨fun _ => nv, fun _ => Or.inr rfl⟩
      · rw [show upR ro t (nI nr) j = ro j from if_neg w]
        exact ⟨fun v => v.elim id (fun v => absurd v w), Or.inl⟩
    have hr1 : RO nr (upR ro t (nI nr)) := fun j hj => by
      by_cases w : j = t
      · exact Or.inr ⟨nr, Nat.le_refl _, if_pos w⟩
      · rw [show upR ro t (nI nr) j = ro j from if_neg w]; exact hr j hj
    have kx1 : KX nr ro (upR ro t (nI nr)) := fun j hj => by
      by_cases w : j = t
      · refine ⟨fun v => absurd (by rw [w]; exact y) v, fun _ => Or.inr (if_pos w)⟩
      · rw [show upR ro t (nI nr) j = ro j from if_neg w]; exact ⟨fun _ => rfl, Or.inl⟩
    have ec : l_Prd_readKinds_2 n (g + 1) (nI i) C = if (C1 1 1 : Int32) = (172 : Int32) then (Option.bind (f_Rdr_advance C1) fun v8 => (l_Prd_readKinds_2 n g) (nI (i + 1)) v8) else (some (1, C1)) := by
      rw [l_Prd_readKinds_2, if_neg ni, if_neg n22, e11, if_pos (Classical.byContradiction fun w => (hc t z).mp w y), lt, ← hD, a1, Option.bind_some, nk1]
    have er : ∀ (J : JM), JOK J → ∀ R : IM, RTh T N k nr R → HO ro R → ∃ R1, RTh T N (k + 1) nr R1 ∧ HO (upR ro t (nI nr)) R1 ∧ RFk R R1 ∧ ∀ f, l_Mod_heads_2 n J (f + 1) 1 R = Option.bind (f_Mod_is 44 R1) fun v11 => if v11 = 0 then ((l_Mod_heads_2 n J f) v11 R1) else (Option.bind (f_Mod_advance n J R1) fun v14 => (l_Mod_heads_2 n J f) v11 v14) := fun J hJ R rt ho => by
      have rb0 : RB T N k (up R A_ruleOf t (nI nr)) := RB_c rt.1 (fun j _ => by rw [fu (by decide)]) (by rw [fu (by decide)])
      obtain ⟨R1, b1, b2, b3, b4⟩ := adR (n := n) hJ hn vt rb0
      have b3' : ∀ b, b ≠ 102 → R1 b = (up R A_ruleOf t (nI nr)) b := b3
      refine ⟨R1, ⟨b2, ?_, ?_⟩, fun j hj => ?_, RFk_t ⟨fun b _ w => fu w, fun j hj => up_ne (Or.inr (by omega)), fun j _ => by rw [fu (by decide)]⟩ (RFk_a b3 b4), fun f => ?_⟩
      · rw [b4 14 (by decide) (by decide) (by decide) (by decide), fu (by decide)]; exact rt.2.1
      · rw [b4 23 (by decide) (by decide) (by decide) (by decide), fu (by decide)]; exact rt.2.2
      · rw [b3' _ (by decide)]
        by_cases w : j = t
        · rw [w, up_self]; exact (if_pos rfl).symm
        · rw [up_ne (Or.inr w), ho j hj]; exact (if_neg w).symm
      · have lt0 : ro t < 0 := by rw [y]; decide
        rw [l_Mod_heads_2, if_neg one0, rt.2.1, if_neg ng1, inF, if_pos (r22 R rt), Option.bind_some, if_neg one0, r10 R rt, chk_i i44, nkc (by omega), ho t z, if_pos lt0, rt.2.2, lt, b1, Option.bind_some]
    have kK1 := (RA_K a2).1
    by_cases w : tC T N (k + 1) = 172
    rotate_left
    · have nw : ¬ C1 1 1 = 172 := fun v => w (by rw [a2.2.2.2.2.1] at v; exact nij (b := 172) (by have := tC_b (k := k + 1) vt; omega) (by decide) v)
      refine Or.inl ⟨C1, k + 1, _, by rw [ec, if_neg nw], by omega, a2, hc1, hr1, kx1, by omega, cf, fun J hJ R rt ho => ?_⟩
      obtain ⟨R1, b1, b2, b3, b4⟩ := er J hJ R rt ho
      refine ⟨1, R1, by omega, fun f => ?_, b1, b2, b3⟩
      rw [b4, show f_Mod_is 44 R1 = some 0 from is_0 (s := 44) vt b1.1 (by decide) w, Option.bind_some, if_pos rfl]
    · obtain ⟨C2, d1, d2, d3⟩ := adC vt a2 (kltK hK kK1 (by omega) (by omega))
      have hc2 : HC (upR ro t (nI nr)) C2 := fun j hj => by rw [d3 7 (by decide)]; exact hc1 j hj
      have ec2 : l_Prd_readKinds_2 n (g + 1) (nI i) C = l_Prd_readKinds_2 n g (nI (i + 1)) C2 := by
        rw [ec, if_pos (show C1 1 1 = 172 from c11 a2 w), d1, Option.bind_some]
      have er2 : ∀ (J : JM), JOK J → ∀ R : IM, RTh T N k nr R → HO ro R → ∃ R2, RTh T N (k + 2) nr R2 ∧ HO (upR ro t (nI nr)) R2 ∧ RFk R R2 ∧ ∀ f, l_Mod_heads_2 n J (f + 1) 1 R = l_Mod_heads_2 n J f 1 R2 := fun J hJ R rt ho => by
        obtain ⟨R1, b1, b2, b3, b4⟩ := er J hJ R rt ho
        obtain ⟨R2, f1, f2, f3, f4⟩ := adR (n := n) hJ hn vt b1.1
        have f3' : ∀ b, b ≠ 102 → R2 b = R1 b := f3
        refine ⟨R2, ⟨f2, ?_, ?_⟩, fun j hj => by rw [f3' _ (by decide)]; exact b2 j hj, RFk_t b3 (RFk_a f3 f4), fun f => ?_⟩
        · rw [f4 14 (by decide) (by decide) (by decide) (by decide)]; exact b1.2.1
        · rw [f4 23 (by decide) (by decide) (by decide) (by decide)]; exact b1.2.2
        · rw [b4, show f_Mod_is 44 R1 = some 1 from is_1 (s := 44) vt b1.1 (by decide) w, Option.bind_some, if_neg one0, f1, Option.bind_some]
      rcases ih g (i + 1) (k + 2) (upR ro t (nI nr)) C2 (by omega) (by omega) d2 hc2 hr1 (by omega) with ⟨C3, k', ro', h1, h2, h3, h4, h5, h6, h7, h8, h9⟩ | ⟨C3, k', h1, h2, h3, h4, h5⟩
      · refine Or.inl ⟨C3, k', ro', by rw [ec2, h1], by omega, h3, h4, h5, fun j hj => ?_, by omega, CFk_t (CFk_t cf (CFk_1 d3)) h8, fun J hJ R rt ho => ?_⟩
        · obtain ⟨u1, u2⟩ := kx1 j hj
          obtain ⟨v1, v2⟩ := h6 j hj
          refine ⟨fun q => ?_, fun q => ?_⟩
          · rw [v1 (by rw [u1 q]; exact q), u1 q]
          · rcases u2 q with r | r
            · exact v2 r
            · right; rw [v1 (by rw [r]; exact nv), r]
        · obtain ⟨R2, b1, b2, b3, b4⟩ := er2 J hJ R rt ho
          obtain ⟨s, R3, f1, f2, f3, f4, f5⟩ := h9 J hJ R2 b1 b2
          exact ⟨s + 1, R3, by omega, fun f => by rw [← Nat.add_assoc, b4, f2], f3, f4, RFk_t b3 f5⟩
      · refine Or.inr ⟨C3, k', by rw [ec2, h1], by omega, h3, CFk_t (CFk_t cf (CFk_1 d3)) h4, fun J hJ R rt ho => ?_⟩
        obtain ⟨R2, b1, b2, b3, b4⟩ := er2 J hJ R rt ho
        obtain ⟨s, R3, f1, f2, f3, f4⟩ := h5 J hJ R2 b1 b2
        exact ⟨s + 1, R3, by omega, fun f => by rw [← Nat.add_assoc, b4, f2], f3, RFk_t b3 f4⟩
/-- all of a head -/
theorem hdA {T : Nat → Int32} {N K n nr k : Nat} {ro : Nat → Int32} {C : IM} (hn : 1000 ≤ n) (vt : VT T N) (hnr : nr < 500) (ra : RA T N K k C) (hc : HC ro C) (hr : RO nr ro) : (∃ (C1 C' : IM) (k' : Nat) (ro' : Nat → Int32), f_Prd_readKinds n C = some (1, C1) ∧ f_Rdr_take 186 C1 = some (1, C') ∧ k + 2 ≤ k' ∧ RA T N K k' C' ∧ HC ro' C' ∧ RO nr ro' ∧ KX nr ro ro' ∧ cnt ro 22 < cnt ro' 22 ∧ CFk C C' ∧ ∀ (J : JM), JOK J → ∀ R : IM, RTh T N k nr R → HO ro R → ∃ R', f_Mod_heads n J R = some R' ∧ RTh T N k' nr R' ∧ HO ro' R' ∧ RFk R R') ∨ (∃ (C' : IM) (k' : Nat), (f_Prd_readKinds n C = some (0, C') ∨ ∃ C1, f_Prd_readKinds n C = some (1, C1) ∧ f_Rdr_take 186 C1 = some (0, C')) ∧ k ≤ k' ∧ RA T N K k' C' ∧ CFk C C' ∧ ∀ (J : JM), JOK J → ∀ R : IM, RTh T N k nr R → HO ro R → ∃ R', f_Mod_heads n J R = some R' ∧ R' MO 14 = nI (tP T N k') ∧ RFk R R') := by
  obtain ⟨kK, K9, hK⟩ := RA_K ra
  have ek : f_Prd_readKinds n C = l_Prd_readKinds_2 n n (nI 0) C := rfl
  rcases kdL hn vt hnr (K - k) n 0 k ro C (Nat.le_refl _) (by omega) ra hc hr (Nat.zero_le _) with ⟨C1, k1, ro', h1, h2, h3, h4, h5, h6, h7, h8, h9⟩ | ⟨C1, k1, h1, h2, h3, h4, h5⟩
  · have kK1 := (RA_K h3).1
    have go : ∀ (J : JM), JOK J → ∀ R : IM, RTh T N k nr R → HO ro R → ∃ R1, f_Mod_heads n J R = (Option.bind (f_Mod_need n J 58 R1) fun v18 => some v18) ∧ RTh T N k1 nr R1 ∧ HO ro' R1 ∧ RFk R R1 := fun J hJ R rt ho => by
      obtain ⟨s, R1, b1, b2, b3, b4, b5⟩ := h9 J hJ R rt ho
      refine ⟨R1, ?_, b3, b4, b5⟩
      obtain ⟨g, hg⟩ : ∃ g, n - s = g + 1 := ⟨n - s - 1, by omega⟩
      have e := b2 (n - s)
      rw [show n - s + s = n by omega] at e
      rw [f_Mod_heads, e, hg, l_Mod_heads_2, if_pos rfl, b_Mod_heads_78]
    by_cases z : tC T N k1 = 186
    · obtain ⟨C2, d1, d2, d3⟩ := tk_1 (w := 186) vt h3 z (by decide) (by decide)
      refine Or.inl ⟨C1, C2, k1 + 1, ro', by rw [ek, h1], d1, by omega, d2, fun j hj => by rw [d3 7 (by decide)]; exact h4 j hj, h5, h6, h7, CFk_t h8 (CFk_1 d3), fun J hJ R rt ho => ?_⟩
      obtain ⟨R1, b1, b2, b3, b4⟩ := go J hJ R rt ho
      obtain ⟨R2, f1, f2, f3, f4⟩ := nd1 (n := n) (s := 58) hJ hn vt b2.1 b2.2.1 (by decide) z
      have f3' : ∀ b, b ≠ 102 → R2 b = R1 b := f3
      refine ⟨R2, by rw [b1, show f_Mod_need n J 58 R1 = some R2 from f1, Option.bind_some], ⟨f2, ?_, ?_⟩, fun j hj => by rw [f3' _ (by decide)]; exact b3 j hj, RFk_t b4 (RFk_a f3 f4)⟩
      · rw [f4 14 (by decide) (by decide) (by decide) (by decide)]; exact b2.2.1
      · rw [f4 23 (by decide) (by decide) (by decide) (by decide)]; exact b2.2.2
    · refine Or.inr ⟨C1, k1, Or.inr ⟨C1, by rw [ek, h1], tk_0 (w := 186) vt h3 (by decide) z⟩, by omega, h3, h8, fun J hJ R rt ho => ?_⟩
      obtain ⟨R1, b1, b2, b3, b4⟩ := go J hJ R rt ho
      exact ⟨_, by rw [b1, show f_Mod_need n J 58 R1 = some _ from nd0 (s := 58) vt b2.1 b2.2.1 (by decide) z, Option.bind_some], up_self, RFk_t b4 RFk_14⟩
  · have kK1 := (RA_K h3).1
    refine Or.inr ⟨C1, k1, Or.inl (by rw [ek, h1]), h2, h3, h4, fun J hJ R rt ho => ?_⟩
    obtain ⟨s, R1, b1, b2, b3, b4⟩ := h5 J hJ R rt ho
    have e := b2 (n - s)
    rw [show n - s + s = n by omega] at e
    exact ⟨R1, by rw [f_Mod_heads, e], b3, b4⟩
