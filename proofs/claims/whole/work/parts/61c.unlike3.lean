/-! unlike: outputs, and the whole -/
theorem min40 {x : Int32} (h0 : 0 ≤ x.toInt) : ∃ m : Nat, m ≤ 40 ∧ minI x 40 = nI m ∧ (if (40 : Int32) ≤ x then (40 : Int32) else x) = nI m ∧ (m : Int) ≤ x.toInt := by
  by_cases q : x.toInt < 40
  · have e : x = nI x.toInt.toNat := Int32.toInt_inj.mp (by rw [nI_toInt (by omega)]; omega)
    refine ⟨x.toInt.toNat, by omega, ?_, ?_, by omega⟩
    · unfold minI
      rw [if_neg (by rw [ti]; simp only [Int32.reduceToInt]; omega)]
      exact e
    · rw [if_neg (by rw [tl]; simp only [Int32.reduceToInt]; omega)]
      exact e
  · refine ⟨40, by decide, ?_, ?_, by omega⟩
    · unfold minI
      by_cases z : (40 : Int32) < x
      · rw [if_pos z]; rfl
      · rw [if_neg z]
        rw [ti] at z
        simp only [Int32.reduceToInt] at z
        exact Int32.toInt_inj.mp (show x.toInt = 40 by omega)
    · rw [if_pos (by rw [tl]; simp only [Int32.reduceToInt]; omega)]
      rfl
theorem nI_e {a b : Nat} (ha : a < 5000) (hb : b < 5000) : nI a = nI b ↔ a = b := by
  constructor
  · intro h
    have := congrArg Int32.toInt h
    rw [nI_toInt (by omega), nI_toInt (by omega)] at this
    omega
  · rintro rfl
    rfl
theorem unl_3 {n hd ot t t' : Nat} {tl1 tl2 : Int32 → Nat → Prop} {I : IM} (hn : 1000 ≤ n) (p2 : isMch hd) (p3 : isMch ot) (r1 : RM t tl1 I hd (curM I)) (r2 : RM t' tl2 I ot (othM I)) : ∃ r, f_Mch_unlikeOutputs n hd ot I = some r ∧ b_Mod_unlike_211 n (if (40 : Int32) ≤ I MO 48 then 40 else I MO 48) (if (40 : Int32) ≤ I 139 5 then 40 else I 139 5) (up I MO 0 0) = some (r, up I MO 0 0) := by
  have y : I (hd + 13) 1 = I MO 48 := r1.2.1.2.2.2.1
  have z : I (ot + 13) 1 = I 139 5 := r2.2.1.2.2.2.1
  obtain ⟨y0, -, y2⟩ := r1.2.2.2.1
  obtain ⟨z0, -, z2⟩ := r2.2.2.2.1
  obtain ⟨p, p40, pm, pi, pl⟩ := min40 (x := I MO 48) y0
  obtain ⟨q, q40, qm, qi, ql⟩ := min40 (x := I 139 5) z0
  obtain ⟨m, hm⟩ : ∃ m, m = if q ≤ p then q else p := ⟨_, rfl⟩
  have hm' : m ≤ p ∧ m ≤ q := by rw [hm]; split <;> omega
  have em : minI (nI p) (nI q) = nI m := by
    unfold minI
    rw [hm]
    by_cases w : q ≤ p
    · rw [if_pos w]
      by_cases w2 : q = p
      · rw [w2]; split <;> rfl
      · rw [if_pos (by rw [ti, nI_toInt (by omega), nI_toInt (by omega)]; omega)]
    · rw [if_neg w, if_neg (by rw [ti, nI_toInt (by omega), nI_toInt (by omega)]; omega)]
  have el : (if nI q ≤ nI p then nI q else nI p) = nI m := by
    rw [hm]
    by_cases w : q ≤ p
    · rw [if_pos w, if_pos ((nI_ll (by omega) (by omega)).mpr w)]
    · rw [if_neg w, if_neg (fun u => w ((nI_ll (by omega) (by omega)).mp u))]
  obtain ⟨a, a1, a2⟩ := up_f (n := n) (I := I) (m := m) (ln_10 p2) (ln_10 p3) (by omega) (by decide) hn
  obtain ⟨v, d1, d2⟩ := fl_f (n := n) (w := A_output) (m := m) (off := 484) (I := up I MO 0 0) (N := 40) rfl (by omega) (by decide) (by omega) hn FDp_0
  have hv : v = a := by
    refine FDp_u d2 a2 (fun k hk => ?_)
    have g1 : I (hd + 10) k = I 128 k := y2 k (by omega) (show (k : Int) < (I MO 48).toInt by omega)
    have g2 : I (ot + 10) k = I 139 (484 + k) := z2 k (by omega) (show (k : Int) < (I 139 5).toInt by omega)
    rw [m0 (show A_output ≠ MO by decide), m0 (show A_other ≠ MO by decide), g1, g2]
    simp [hk]
  have k1 : f_Mch_keptOutputs hd I = some (nI p) := by
    unfold f_Mch_keptOutputs
    rw [show (1 : Int32).toNatClampNeg = 1 from rfl, y, pm]
  have k2 : f_Mch_keptOutputs ot I = some (nI q) := by
    unfold f_Mch_keptOutputs
    rw [show (1 : Int32).toNatClampNeg = 1 from rfl, z, qm]
  rw [pi, qi]
  unfold f_Mch_unlikeOutputs b_Mod_unlike_211
  rw [k1, Option.bind_some, k2, Option.bind_some, em, a1, Option.bind_some, Option.bind_some, Option.bind_some, el, show f_Mod_firstUnlike n A_output (nI m) 484 (-1) (up I MO 0 0) = some v from d1, Option.bind_some, hv]
  have ha : (a = -1 ∧ ¬ 0 ≤ a) ∨ (¬ a = -1 ∧ 0 ≤ a) := by
    rcases a2 with ⟨g, -⟩ | ⟨u, g1, g2, -⟩
    · exact Or.inl ⟨g, by rw [g]; decide⟩
    · refine Or.inr ⟨by rw [g2]; exact nI_m (by omega), ?_⟩
      rw [g2, tl, nI_toInt (by omega)]
      simp only [Int32.reduceToInt]
      omega
  rcases ha with ⟨g1, g2⟩ | ⟨g1, g2⟩
  · rw [if_pos g1, if_neg g2]
    by_cases e : nI p = nI q
    · rw [if_pos e, if_pos e]
      exact ⟨a, rfl, rfl⟩
    · rw [if_neg e, if_neg e]
      exact ⟨_, rfl, rfl⟩
  · rw [if_neg g1, if_pos g2]
    exact ⟨a, rfl, rfl⟩
theorem ma_unlike {PX : Nat → IM → Prop} (hP : PXF PX) : Ma_unlike (Rl PX) := by
  intro a0 t ht rl hd ot pt it J I p1 p2 p3 p4 p5 hJ hR
  obtain ⟨d, tx, rc, wi, h69, r1, r2, px⟩ := id hR
  obtain ⟨n, hn⟩ : ∃ n : Nat, 1000 ≤ n := ⟨1000, Nat.le_refl _⟩
  by_cases c1 : a0 < 0
  · refine Or.inr ⟨n, 0, up I MO 0 1, ?_, ?_, up_self, Rl_thr hP p2 p3 hR⟩
    · have e : ∀ v : Int32, ¬ v < 0 → ¬ a0 = v := fun v hv q => hv (by rw [← q]; exact c1)
      rw [t_Eng_unlike, if_neg (e 0 (by decide)), if_neg (e 1 (by decide)), if_neg (e 2 (by decide)), if_neg (e 3 (by decide))]
    · simp only [f_Mod_unlike, f_Mod_in, if_pos c1, Option.bind_some, if_true, refuse_1, if_neg (show ¬ (1 : Int32) = 0 by decide)]
  by_cases c2 : (3 : Int32) < a0
  · refine Or.inr ⟨n, 0, up I MO 0 1, ?_, ?_, up_self, Rl_thr hP p2 p3 hR⟩
    · have e : ∀ v : Int32, ¬ (3 : Int32) < v → ¬ a0 = v := fun v hv q => hv (by rw [← q]; exact c2)
      rw [t_Eng_unlike, if_neg (e 0 (by decide)), if_neg (e 1 (by decide)), if_neg (e 2 (by decide)), if_neg (e 3 (by decide))]
    · simp only [f_Mod_unlike, f_Mod_in, if_neg c1, if_pos c2, Option.bind_some, if_true, refuse_1, if_neg (show ¬ (1 : Int32) = 0 by decide)]
  have em : f_Mod_unlike n a0 I = (if a0 = 0 then (Option.bind (f_Mod_firstUnlike n A_code 64 20 (-1) (up I MO 0 0)) fun v25 => Option.bind (f_Mod_firstUnlike n A_codeTags 64 84 v25 (up I MO 0 0)) fun v27 => some (v27, up I MO 0 0)) else (if a0 = (1 : Int32) then (Option.bind (f_Mod_firstUnlike n A_ints 96 148 (-1) (up I MO 0 0)) fun v19 => Option.bind (f_Mod_firstUnlike n A_held 96 244 v19 (up I MO 0 0)) fun v21 => Option.bind (f_Mod_firstUnlike n A_owners 96 340 v21 (up I MO 0 0)) fun v23 => some (v23, up I MO 0 0)) else (if a0 = (2 : Int32) then (Option.bind (f_Mod_firstUnlike n A_registers 8 436 (-1) (up I MO 0 0)) fun v12 => Option.bind (f_Mod_firstUnlike n A_registerTags 8 444 v12 (up I MO 0 0)) fun v14 => if 0 ≤ v14 then b_Mod_unlike_168 n v14 (up I MO 0 0) else (if up I MO 0 0 MO 42 = up I MO 0 0 A_other (1 : Int32).toNatClampNeg then some (if up I MO 0 0 MO 43 = up I MO 0 0 A_other (2 : Int32).toNatClampNeg then v14 else 8, up I MO 0 0) else b_Mod_unlike_163 n (up I MO 0 0))) else (if (40 : Int32) ≤ up I MO 0 0 A_other (5 : Int32).toNatClampNeg then b_Mod_unlike_211 n (if (40 : Int32) ≤ up I MO 0 0 MO 48 then 40 else up I MO 0 0 MO 48) 40 (up I MO 0 0) else b_Mod_unlike_211 n (if (40 : Int32) ≤ up I MO 0 0 MO 48 then 40 else up I MO 0 0 MO 48) (up I MO 0 0 A_other (5 : Int32).toNatClampNeg) (up I MO 0 0))))) := by
    unfold f_Mod_unlike f_Mod_in
    rw [if_neg c1, if_neg c2, Option.bind_some, if_neg (by decide), refuse_0, Option.bind_some, if_pos rfl]
  rcases i0_3 c1 c2 with rfl | rfl | rfl | rfl
  · obtain ⟨r, e1, v, e2, e3⟩ := unl_0 hn p2 p3 r1 r2
    refine Or.inl ⟨n, r, up I MO 0 0, ?_, ?_, up_self, Rl_thr hP p2 p3 hR⟩
    · rw [f_Eng_unlike, if_pos rfl, e1, Option.bind_some]
    · rw [em, if_pos rfl, e2, Option.bind_some, e3, Option.bind_some]
  · obtain ⟨r, e1, v, v', e2, e3, e4⟩ := unl_1 hn p2 p3 r1 r2
    refine Or.inl ⟨n, r, up I MO 0 0, ?_, ?_, up_self, Rl_thr hP p2 p3 hR⟩
    · rw [f_Eng_unlike, if_neg (by decide), if_pos rfl, e1, Option.bind_some]
    · rw [em, if_neg (by decide), if_pos rfl, e2, Option.bind_some, e3, Option.bind_some, e4, Option.bind_some]
  · obtain ⟨r, e1, v, v', e2, e3, e4, e5⟩ := unl_2 hn p2 p3 r1 r2
    refine Or.inl ⟨n, r, up I MO 0 0, ?_, ?_, up_self, Rl_thr hP p2 p3 hR⟩
    · rw [f_Eng_unlike, if_neg (by decide), if_neg (by decide), if_pos rfl, e1, Option.bind_some]
    · rw [em, if_neg (by decide), if_neg (by decide), if_pos rfl, e2, Option.bind_some, e3, Option.bind_some, m0j (show 42 ≠ 0 by decide), m0j (show 43 ≠ 0 by decide), show (1 : Int32).toNatClampNeg = 1 from rfl, show (2 : Int32).toNatClampNeg = 2 from rfl, m0 (show A_other ≠ MO by decide), m0 (show A_other ≠ MO by decide)]
      by_cases w : 0 ≤ v'
      · rw [if_pos w, e4 w]
        rfl
      · rw [if_neg w, e5 w]
        by_cases w1 : I MO 42 = I 139 1
        · rw [if_pos w1, if_pos w1]
        · rw [if_neg w1, if_neg w1]
          rfl
  · obtain ⟨r, e1, e2⟩ := unl_3 hn p2 p3 r1 r2
    refine Or.inl ⟨n, r, up I MO 0 0, ?_, ?_, up_self, Rl_thr hP p2 p3 hR⟩
    · rw [f_Eng_unlike, if_neg (by decide), if_neg (by decide), if_neg (by decide), if_pos rfl, e1, Option.bind_some]
    · rw [em, if_neg (by decide), if_neg (by decide), if_neg (by decide), m0j (show 48 ≠ 0 by decide), show (5 : Int32).toNatClampNeg = 5 from rfl, m0 (show A_other ≠ MO by decide)]
      by_cases w : (40 : Int32) ≤ I 139 5
      · rw [show (if (40 : Int32) ≤ I 139 5 then (40 : Int32) else I 139 5) = 40 from if_pos w] at e2
        rw [if_pos (show (40 : Int32) ≤ I A_other 5 from w)]
        exact e2
      · rw [show (if (40 : Int32) ≤ I 139 5 then (40 : Int32) else I 139 5) = I 139 5 from if_neg w] at e2
        rw [if_neg (show ¬ (40 : Int32) ≤ I A_other 5 from w)]
        exact e2
