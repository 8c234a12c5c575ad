/-! policy: what is done to the class's policy, and to the reference's tables -/
def KP (T : Nat → Int32) (N K : Nat) : Prop := (tC T N K = 100 ∨ tC T N K = 102) ∧ (∀ j, j < K → tC T N j ≠ 100 ∧ tC T N j ≠ 102) ∧ K ≤ 900
def CFp (pt : Nat) (C C' : IM) : Prop := (∀ b, b ≠ 1 → b ≠ 7 → b ≠ pt → b ≠ pt + 1 → b ≠ pt + 2 → C' b = C b) ∧ ∀ j, j ≠ 3 → C' 7 j = C 7 j
theorem CFp_t {pt : Nat} {A B C : IM} (h : CFp pt A B) (g : CFp pt B C) : CFp pt A C := ⟨fun b z1 z2 z3 z4 z5 => (g.1 b z1 z2 z3 z4 z5).trans (h.1 b z1 z2 z3 z4 z5), fun j z => (g.2 j z).trans (h.2 j z)⟩
def CPi (C : IM) (pt : Nat) (j : Nat) (d : CIt) : Prop := C (pt + 1) j = trS d.1 ∧ C (pt + 2) j = clX d j
/-- a block was appended -/
def CE (pt L : Nat) (ds : List CIt) (m : Int32) (C C' : IM) : Prop := C' pt 0 = nI (L + ds.length) ∧ (∀ j, j < L → C' (pt + 1) j = C (pt + 1) j ∧ C' (pt + 2) j = C (pt + 2) j) ∧ BL (CPi C' pt) L ds ∧ C' 7 3 = C 7 3 ||| m ∧ CFp pt C C'
theorem CE_t {pt L : Nat} {ds es : List CIt} {m m' : Int32} {A B C : IM} (h : CE pt L ds m A B) (g : CE pt (L + ds.length) es m' B C) : CE pt L (ds ++ es) (m ||| m') A C := by
  obtain ⟨h1, h2, h3, h4, h5⟩ := h
  obtain ⟨g1, g2, g3, g4, g5⟩ := g
  refine ⟨by rw [g1, List.length_append, Nat.add_assoc], fun j hj => ?_, BL_app.mpr ⟨BL_m (fun j d _ z2 w => ?_) h3, g3⟩, by rw [g4, h4, Int32.or_assoc], CFp_t h5 g5⟩
  · rw [(g2 j (by omega)).1, (g2 j (by omega)).2]; exact h2 j hj
  · unfold CPi
    rw [(g2 j z2).1, (g2 j z2).2]; exact w
theorem p8 {pt : Nat} (h : isPol pt) : 8 ≤ pt ∧ pt + 6 < 102 := by rcases h with rfl | rfl | rfl <;> decide
theorem CE_0 {pt L : Nat} {C C' : IM} (hp : 8 ≤ pt) (h : ∀ b, b ≠ 1 → C' b = C b) (e : C pt 0 = nI L) : CE pt L [] 0 C C' := by
  refine ⟨by rw [h pt (by omega)]; exact e, fun j _ => ?_, trivial, by rw [h 7 (by decide), Int32.or_zero], fun b z _ _ _ _ => h b z, fun j _ => by rw [h 7 (by decide)]⟩
  rw [h (pt + 1) (by omega), h (pt + 2) (by omega)]
  exact ⟨rfl, rfl⟩
/-- append -/
theorem apC2 {pt L : Nat} {C : IM} {x1 x2 : Int32} (hL : L < 900) (e : C pt 0 = nI L) : f_Pol_append pt x1 x2 C = some (nI L, up (up (up C (pt + 1) L x1) (pt + 2) L x2) pt 0 (nI (L + 1))) := by
  have n0 : ¬ nI L < 0 := fun y => by have := (nlt (b := 0) (by omega) (by decide)).mp y; omega
  have n9 : ¬ (900 : Int32) ≤ nI L := nk (N := 900) hL (by decide)
  have l9 : nI L < 900 := (nlt (b := 900) (by omega) (by decide)).mpr hL
  have i9 : inb (nI L) 900 := nki hL (by decide)
  have s1 : nI (L + 1) - 1 = nI L := by
    have := nsb (a := L + 1) (b := 1) (by omega)
    rw [show L + 1 - 1 = L by omega] at this
    exact this
  have n1 : pt ≠ pt + 1 := by omega
  have n2 : pt ≠ pt + 2 := by omega
  simp only [f_Pol_append, e, if_neg n0, if_neg n9, if_pos l9, chk_i i9, lt, nkc (show L < 5000 by omega), fu n1, fu n2, nk1, up_self, s1]
theorem CE_ap {pt L : Nat} {C : IM} {x1 x2 : Int32} {d : CIt} (hp : 8 ≤ pt) (h1 : trS d.1 = x1) (h2 : clX d L = x2) : CE pt L [d] 0 C (up (up (up C (pt + 1) L x1) (pt + 2) L x2) pt 0 (nI (L + 1))) := by
  refine ⟨up_self, fun j hj => ⟨?_, ?_⟩, BL_1 ⟨?_, ?_⟩, ?_, fun b z1 z2 z3 z4 z5 => by rw [fu z3, fu z5, fu z4], fun j _ => ?_⟩
  · rw [fu (by omega), fu (by omega), up_ne (Or.inr (by omega))]
  · rw [fu (by omega), up_ne (Or.inr (by omega)), fu (by omega)]
  · rw [fu (by omega), fu (by omega), up_self, h1]
  · rw [fu (by omega), up_self, h2]
  · rw [fu (by omega), fu (by omega), fu (by omega), Int32.or_zero]
  · rw [fu (by omega), fu (by omega), fu (by omega)]
theorem CE_nm {pt L : Nat} {ds : List CIt} {m w : Int32} {C C' : IM} (hp : 8 ≤ pt) (h : CE pt L ds m C C') : CE pt L ds (m ||| w) C (up C' 7 3 (C' 7 3 ||| w)) := by
  obtain ⟨h1, h2, h3, h4, h5⟩ := h
  refine ⟨by rw [fu (by omega)]; exact h1, fun j hj => by rw [fu (by omega), fu (by omega)]; exact h2 j hj, BL_m (fun j d _ _ w => ?_) h3, by rw [up_self, h4, Int32.or_assoc], fun b z1 z2 z3 z4 z5 => by rw [fu z2]; exact h5.1 b z1 z2 z3 z4 z5, fun j z => by rw [up_ne (Or.inr z)]; exact h5.2 j z⟩
  unfold CPi
  rw [fu (by omega), fu (by omega)]; exact w
/-- a jump finds its place -/
theorem lhC {pt j L : Nat} {C : IM} (hj : j < 900) (e : C pt 0 = nI L) : f_Pol_landHere pt (nI j) C = some (up C (pt + 2) j (nI L)) := by
  have n0 : ¬ nI j < 0 := fun y => by have := (nlt (b := 0) (by omega) (by decide)).mp y; omega
  have n9 : ¬ (900 : Int32) ≤ nI j := nk (N := 900) hj (by decide)
  simp only [f_Pol_landHere, if_neg n0, if_neg n9, chk_i (show inb (nI j) 900 from nki hj (by decide)), lt, nkc (show j < 5000 by omega), e, b_Pol_landHere_23]
theorem BL_set {P Q : Nat → CIt → Prop} {L : Nat} {ds es : List CIt} {d d' : CIt} (h : BL P L (ds ++ d :: es)) (h1 : ∀ j e, j ≠ L + ds.length → P j e → Q j e) (h2 : P (L + ds.length) d → Q (L + ds.length) d') : BL Q L (ds ++ d' :: es) := by
  obtain ⟨a, b, c⟩ := BL_app.mp h
  exact BL_app.mpr ⟨BL_m (fun j e _ z2 w => h1 j e (by omega) w) a, h2 b, BL_m (fun j e z1 _ w => h1 j e (by omega) w) c⟩
theorem CE_set {pt L : Nat} {ds es : List CIt} {c w w' m v : Int32} {C C' : IM} (hc : c = 302 ∨ c = 303) (hv : v = nI (L + ds.length) + w') (h : CE pt L (ds ++ (c, w) :: es) m C C') (hp : 8 ≤ pt) : CE pt L (ds ++ (c, w') :: es) m C (up C' (pt + 2) (L + ds.length) v) := by
  obtain ⟨h1, h2, h3, h4, h5⟩ := h
  refine ⟨?_, fun j hj => ?_, BL_set h3 (fun j e z w => ?_) (fun w => ?_), by rw [fu (by omega)]; exact h4, fun b z1 z2 z3 z4 z5 => by rw [fu z5]; exact h5.1 b z1 z2 z3 z4 z5, fun j z => by rw [fu (by omega)]; exact h5.2 j z⟩
  · rw [fu (by omega), h1]; simp
  · rw [fu (by omega), up_ne (Or.inr (by omega))]; exact h2 j hj
  · unfold CPi
    rw [fu (by omega), up_ne (Or.inr z)]; exact w
  · unfold CPi at w ⊢
    rw [fu (by omega), up_self]
    refine ⟨w.1, ?_⟩
    rcases hc with hc | hc <;> rw [hc, hv] <;> rfl
/-- the reference -/
def RFq (q : Nat) (R R' : IM) : Prop := (∀ b, b ≠ MO → b ≠ 106 → b ≠ 107 → b ≠ 115 → b ≠ 116 → b ≠ 117 → R' b = R b) ∧ (∀ j, 1000 ≤ j → R' A_code0 j = R A_code0 j ∧ R' A_codeValue j = R A_codeValue j) ∧ (∀ j, j ≠ q → R' A_named j = R A_named j) ∧ ∀ j, j ∉ [10, 11, 12, 13, 14, 15, 28, 29] → R' MO j = R MO j
theorem RFq_t {q : Nat} {A B C : IM} (h : RFq q A B) (g : RFq q B C) : RFq q A C := ⟨fun b z1 z2 z3 z4 z5 z6 => (g.1 b z1 z2 z3 z4 z5 z6).trans (h.1 b z1 z2 z3 z4 z5 z6), fun j z => ⟨(g.2.1 j z).1.trans (h.2.1 j z).1, (g.2.1 j z).2.trans (h.2.1 j z).2⟩, fun j z => (g.2.2.1 j z).trans (h.2.2.1 j z), fun j z => (g.2.2.2 j z).trans (h.2.2.2 j z)⟩
theorem RFq_0 {q : Nat} {A : IM} : RFq q A A := ⟨fun _ _ _ _ _ _ _ => rfl, fun _ _ => ⟨rfl, rfl⟩, fun _ _ => rfl, fun _ _ => rfl⟩
theorem RFq_u {q j : Nat} {A : IM} {v : Int32} (h : j ∈ [10, 11, 12, 13, 14, 15, 28, 29]) : RFq q A (up A MO j v) := ⟨fun b z _ _ _ _ _ => fu z, fun j _ => ⟨by rw [fu (by decide)], by rw [fu (by decide)]⟩, fun j _ => by rw [fu (by decide)], fun i hi => up_ne (Or.inr (fun z => hi (by rw [z]; exact h)))⟩
theorem RFq_c {q j a : Nat} {A : IM} {v : Int32} (ha : a = 106 ∨ a = 107) (hj : j < 1000) : RFq q A (up A a j v) := by
  have n1 : MO ≠ a := by rcases ha with rfl | rfl <;> decide
  have n2 : A_named ≠ a := by rcases ha with rfl | rfl <;> decide
  exact ⟨fun b z1 z2 z3 z4 z5 z6 => fu (by omega), fun i hi => ⟨up_ne (Or.inr (by omega)), up_ne (Or.inr (by omega))⟩, fun i _ => by rw [fu n2], fun i _ => by rw [fu n1]⟩
theorem RFq_p {q j a : Nat} {A : IM} {v : Int32} (ha : a = 116 ∨ a = 117) : RFq q A (up A a j v) := by
  have n1 : MO ≠ a := by rcases ha with rfl | rfl <;> decide
  have n2 : A_named ≠ a := by rcases ha with rfl | rfl <;> decide
  have n3 : A_code0 ≠ a := by rcases ha with rfl | rfl <;> decide
  have n4 : A_codeValue ≠ a := by rcases ha with rfl | rfl <;> decide
  exact ⟨fun b z1 z2 z3 z4 z5 z6 => fu (by omega), fun i hi => ⟨by rw [fu n3], by rw [fu n4]⟩, fun i _ => by rw [fu n2], fun i _ => by rw [fu n1]⟩
theorem RFq_n {q : Nat} {A : IM} {v : Int32} : RFq q A (up A A_named q v) := ⟨fun b z1 z2 z3 z4 z5 z6 => fu z4, fun i hi => ⟨by rw [fu (by decide)], by rw [fu (by decide)]⟩, fun i z => up_ne (Or.inr z), fun i _ => by rw [fu (by decide)]⟩
def RPi2 (R : IM) (j : Nat) (d : CIt) : Prop := R A_code0 j = d.1 ∧ R A_codeValue j = rfV d j
def RZ (p c q : Nat) (ds : List CIt) (m : Int32) (R R' : IM) : Prop := BL (RPi2 R') c ds ∧ (∀ j, j < c → R' A_code0 j = R A_code0 j ∧ R' A_codeValue j = R A_codeValue j) ∧ R' A_named q = R A_named q ||| m ∧ (∀ j, j < p → R' A_pile j = R A_pile j ∧ R' A_pileAt j = R A_pileAt j) ∧ RFq q R R'
theorem RZ_t {p p' c q : Nat} {ds es : List CIt} {m m' : Int32} {A B C : IM} (hp : p ≤ p') (h : RZ p c q ds m A B) (g : RZ p' (c + ds.length) q es m' B C) : RZ p c q (ds ++ es) (m ||| m') A C := by
  obtain ⟨h1, h2, h3, h4, h5⟩ := h
  obtain ⟨g1, g2, g3, g4, g5⟩ := g
  refine ⟨BL_app.mpr ⟨BL_m (fun j d _ z2 w => ?_) h1, g1⟩, fun j hj => ?_, by rw [g3, h3, Int32.or_assoc], fun j hj => ?_, RFq_t h5 g5⟩
  · unfold RPi2
    rw [(g2 j z2).1, (g2 j z2).2]; exact w
  · rw [(g2 j (by omega)).1, (g2 j (by omega)).2]; exact h2 j hj
  · rw [(g4 j (by omega)).1, (g4 j (by omega)).2]; exact h4 j hj
/-- the reference reads an expression: token, open, piled, codes, rule -/
def RQ (T : Nat → Int32) (N k o p c q : Nat) (R : IM) : Prop := RB T N k R ∧ R MO 14 = -1 ∧ R MO 28 = nI o ∧ R MO 29 = nI p ∧ R MO 15 = nI c ∧ R MO 23 = nI q
theorem kltK {T : Nat → Int32} {N K k : Nat} (hK : KP T N K) (hk : k ≤ K) (z1 : tC T N k ≠ 100) (z2 : tC T N k ≠ 102) : k < K := by
  by_cases e : k = K
  · rcases hK.1 with y | y
    · exact absurd (e ▸ y) z1
    · exact absurd (e ▸ y) z2
  · omega
theorem RZ_0 {p c q : Nat} {R R' : IM} (h1 : ∀ b, b ≠ MO → R' b = R b) (h2 : ∀ j, j ∉ [10, 11, 12, 13, 14, 15, 28, 29] → R' MO j = R MO j) : RZ p c q [] 0 R R' := ⟨trivial, fun j _ => ⟨by rw [h1 _ (by decide)], by rw [h1 _ (by decide)]⟩, by rw [h1 _ (by decide), Int32.or_zero], fun j _ => ⟨by rw [h1 _ (by decide)], by rw [h1 _ (by decide)]⟩, fun b z _ _ _ _ _ => h1 b z, fun j _ => ⟨by rw [h1 _ (by decide)], by rw [h1 _ (by decide)]⟩, fun j _ => by rw [h1 _ (by decide)], h2⟩
theorem rStp {T : Nat → Int32} {N n k o p c q : Nat} {J : JM} {R : IM} (hJ : JOK J) (hn : 1000 ≤ n) (vt : VT T N) (h : RQ T N k o p c q R) : ∃ R', f_Mod_step n J R = some R' ∧ f_Mod_advance n J R = some R' ∧ RQ T N (k + 1) o p c q R' ∧ RZ p c q [] 0 R R' := by
  obtain ⟨rb, h14, h28, h29, h15, h23⟩ := h
  obtain ⟨R', b1, b2, b3, b4⟩ := adR (n := n) hJ hn vt rb
  have j : ∀ j, j ∉ [10, 11, 12, 13] → R' MO j = R MO j := fun j hj => by
    have s : j ≠ 10 ∧ j ≠ 11 ∧ j ≠ 12 ∧ j ≠ 13 := by
      revert hj; simp only [List.mem_cons, List.not_mem_nil, or_false]; omega
    exact b4 j s.1 s.2.1 s.2.2.1 s.2.2.2
  refine ⟨R', ?_, b1, ⟨b2, by rw [j 14 (by decide)]; exact h14, by rw [j 28 (by decide)]; exact h28, by rw [j 29 (by decide)]; exact h29, by rw [j 15 (by decide)]; exact h15, by rw [j 23 (by decide)]; exact h23⟩, RZ_0 b3 (fun i hi => j i (by revert hi; simp only [List.mem_cons, List.not_mem_nil, or_false]; omega))⟩
  rw [f_Mod_step, h14, if_neg ng1, b1, Option.bind_some, b_Mod_step_11]
theorem rEm {T : Nat → Int32} {N k o p c q : Nat} {R : IM} {d : CIt} {x v : Int32} (hc : c < 1000) (h : RQ T N k o p c q R) (h1 : d.1 = x) (h2 : rfV d c = v) : ∃ R', f_Mod_emit x v R = some R' ∧ RQ T N k o p (c + 1) q R' ∧ RZ p c q [d] 0 R R' ∧ ∀ j, j ≠ 15 → R' MO j = R MO j := by
  obtain ⟨rb, h14, h28, h29, h15, h23⟩ := h
  have ic : inb (nI c) 2000 := nki (by omega) (by decide)
  have nc : (nI c).toNatClampNeg = c := nkc (by omega)
  have jj : ∀ j, j ≠ 15 → (up (up (up R A_code0 c x) A_codeValue c v) MO 15 (nI (c + 1))) MO j = R MO j := fun j z => by rw [up_ne (Or.inr z), fu (by decide), fu (by decide)]
  refine ⟨up (up (up R A_code0 c x) A_codeValue c v) MO 15 (nI (c + 1)), ?_, ⟨RB_c rb (fun j hj => jj j (fun z => by subst z; revert hj; decide)) (by rw [fu (by decide), fu (by decide), fu (by decide)]), by rw [jj 14 (by decide)]; exact h14, by rw [jj 28 (by decide)]; exact h28, by rw [jj 29 (by decide)]; exact h29, up_self, by rw [jj 23 (by decide)]; exact h23⟩, ⟨BL_1 ⟨?_, ?_⟩, fun j hj => ⟨?_, ?_⟩, ?_, fun j _ => ⟨?_, ?_⟩, RFq_t (RFq_c (Or.inl rfl) hc) (RFq_t (RFq_c (Or.inr rfl) hc) (RFq_u (by decide)))⟩, jj⟩
  · simp only [f_Mod_emit, h15, chk_i ic, lt, nc, fu (show MO ≠ A_code0 by decide), fu (show MO ≠ A_codeValue by decide), nk1]
  · rw [fu (by decide), fu (by decide), up_self, h1]
  · rw [fu (by decide), up_self, h2]
  · rw [fu (by decide), fu (by decide), up_ne (Or.inr (by omega))]
  · rw [fu (by decide), up_ne (Or.inr (by omega)), fu (by decide)]
  · rw [fu (by decide), fu (by decide), fu (by decide), Int32.or_zero]
  · rw [fu (by decide), fu (by decide), fu (by decide)]
  · rw [fu (by decide), fu (by decide), fu (by decide)]
