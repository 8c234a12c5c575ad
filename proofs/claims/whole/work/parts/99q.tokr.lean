/-! tokens: the reference reads -/
def TXr (T : Nat → Int32) (N : Nat) (R : IM) : Prop := R MO 2 = nI N ∧ ∀ k, k < N → R A_signs k = T k
theorem TXr_u {T : Nat → Int32} {N k : Nat} {v : Int32} {R : IM} (h : TXr T N R) (h1 : k ≠ 2) : TXr T N (up R MO k v) := by
  refine ⟨?_, fun j hj => ?_⟩
  · rw [up_ne (Or.inr (by omega))]; exact h.1
  · rw [fu (by decide)]; exact h.2 j hj
/-- the sign where d are left -/
theorem sgR {T : Nat → Int32} {N d : Nat} {R : IM} (hN : N ≤ 900) (hd : d ≤ N) (tx : TXr T N R) : f_Mod_sign (nI (N - d)) R = some (if d = 0 then 0 else T (N - d)) := by
  by_cases c : d = 0
  · rw [if_pos c, c, f_Mod_sign, tx.1, Nat.sub_zero, if_pos (Int32.le_refl _), b_Mod_sign_18]
  · rw [if_neg c, f_Mod_sign, tx.1, if_neg (nk (by omega) (by omega)), chk_i (nki (by omega) (by decide)), b_Mod_sign_18, nkc (by omega), tx.2 _ (by omega)]
def pRm (T : Nat → Int32) (N : Nat) : Nat → Nat
  | 0 => 0
  | d + 1 => if T (N - (d + 1)) = 10 then d + 1 else pRm T N d
theorem rm_le {T : Nat → Int32} {N : Nat} : ∀ d, pRm T N d ≤ d
  | 0 => Nat.le_refl _
  | d + 1 => by
    rw [pRm]
    split
    · exact Nat.le_refl _
    · exact Nat.le_succ_of_le (rm_le d)
theorem sk_rm {T : Nat → Int32} {N : Nat} : ∀ d, pSk T N d 1 = pSk T N (pRm T N d) 0
  | 0 => rfl
  | d + 1 => by
    rw [pSk, pRm]
    by_cases c1 : T (N - (d + 1)) = 10
    · rw [if_pos c1, if_pos c1, pSk, if_pos c1]
    · rw [if_neg c1, if_neg c1]
      split
      · exact sk_rm d
      · split
        · exact sk_rm d
        · rw [if_neg (by decide)]
          exact sk_rm d
theorem rmR {T : Nat → Int32} {N n : Nat} {J : JM} {H : Int32 → IM → Option IM} (hN : N ≤ 900) : ∀ (d f : Nat) (R : IM), d ≤ N → d < f → TXr T N R → R MO 13 = nI (N - d) → l_Mod_advance_51 n J H f 1 1 R = H 1 (up R MO 13 (nI (N - pRm T N d)))
  | 0, f + 1, R, hd, _, tx, h => by
    rw [l_Mod_advance_51, if_neg (by decide), tx.1, h, Nat.sub_zero, if_pos (Int32.le_refl _), b_Mod_advance_93, if_neg (by decide), if_neg (by decide), lt, pRm, Nat.sub_zero, h, Nat.sub_zero]
  | d + 1, f + 1, R, hd, hf, tx, h => by
    rw [l_Mod_advance_51, if_neg (by decide), tx.1, h, if_neg (nk (by omega) (by omega)), chk_i (nki (by omega) (by decide)), nkc (by omega), tx.2 _ (by omega), pRm]
    by_cases c1 : T (N - (d + 1)) = 10
    · rw [if_pos c1, if_pos c1, b_Mod_advance_93, if_neg (by decide), if_neg (by decide), lt, h]
    · have := rmR (n := n) (J := J) (H := H) hN d f (up R MO 13 (nI (N - d))) (by omega) (by omega) (TXr_u tx (by decide)) up_self
      rw [if_neg c1, if_neg c1, lt, nk1, show N - (d + 1) + 1 = N - d by omega, this, up_up]
theorem l51_0 {n f : Nat} {J : JM} {H : Int32 → IM → Option IM} {D : IM} : l_Mod_advance_51 n J H (f + 1) 0 0 D = H 0 D := by
  rw [l_Mod_advance_51, if_pos rfl, b_Mod_advance_93, if_pos rfl, lt, up_id rfl]
theorem l51_1 {n f : Nat} {J : JM} {H : Int32 → IM → Option IM} {D : IM} : l_Mod_advance_51 n J H (f + 1) 1 0 D = H 1 (up D MO 13 (D MO 13 + 1)) := by
  rw [l_Mod_advance_51, if_pos rfl, b_Mod_advance_93, if_neg (by decide), if_pos rfl, lt]
theorem bkR {T : Nat → Int32} {N n : Nat} {J : JM} (hn : 1000 ≤ n) (hN : N ≤ 900) : ∀ (d f : Nat) (R : IM), d ≤ N → d < f → TXr T N R → R MO 13 = nI (N - d) → ∃ g, l_Mod_advance_2 n J f 1 R = l_Mod_advance_2 n J g 0 (up R MO 13 (nI (N - pSk T N d 0))) ∧ f - d - 1 ≤ g ∧ g ≤ f := by
  intro d
  induction d using Nat.strongRecOn with
  | _ d ih =>
    intro f R hd hf tx h
    obtain ⟨f', hf'⟩ : ∃ f', f = f' + 1 := ⟨f - 1, by omega⟩
    subst hf'
    have st : l_Mod_advance_2 n J (f' + 1) 1 R = l_Mod_advance_51 n J (l_Mod_advance_2 n J f') n (if (if d = 0 then 0 else T (N - d)) = (32 : Int32) then 1 else (if (if d = 0 then 0 else T (N - d)) = (10 : Int32) then 1 else (if (if d = 0 then 0 else T (N - d)) = (35 : Int32) then 1 else 0))) (if (if d = 0 then 0 else T (N - d)) = (35 : Int32) then 1 else 0) R := by
      rw [l_Mod_advance_2, if_neg (by decide), h, sgR hN hd tx, Option.bind_some]
    obtain ⟨m, hm⟩ : ∃ m, n = m + 1 := ⟨n - 1, by omega⟩
    have l00 : ∀ D : IM, l_Mod_advance_51 n J (l_Mod_advance_2 n J f') n 0 0 D = l_Mod_advance_2 n J f' 0 D := fun D => by
      have := l51_0 (n := n) (J := J) (H := l_Mod_advance_2 n J f') (f := m) (D := D)
      rw [← hm] at this
      exact this
    have l10 : ∀ D : IM, l_Mod_advance_51 n J (l_Mod_advance_2 n J f') n 1 0 D = l_Mod_advance_2 n J f' 1 (up D MO 13 (D MO 13 + 1)) := fun D => by
      have := l51_1 (n := n) (J := J) (H := l_Mod_advance_2 n J f') (f := m) (D := D)
      rw [← hm] at this
      exact this
    match d, hd, hf, h, st, ih with
    | 0, hd, hf, h, st, ih =>
      refine ⟨f', ?_, by omega, by omega⟩
      rw [st, if_pos rfl, if_neg (by decide), if_neg (by decide), if_neg (by decide), l00, pSk, up_id h]
    | d + 1, hd, hf, h, st, ih =>
      rw [if_neg (Nat.succ_ne_zero d)] at st
      have step : ∀ D : IM, D = up R MO 13 (nI (N - d)) → ∃ g, l_Mod_advance_2 n J f' 1 D = l_Mod_advance_2 n J g 0 (up R MO 13 (nI (N - pSk T N d 0))) ∧ f' - d - 1 ≤ g ∧ g ≤ f' := fun D hD => by
        obtain ⟨g, g1, g2, g3⟩ := ih d (by omega) f' D (by omega) (by omega) (by rw [hD]; exact TXr_u tx (by decide)) (by rw [hD, up_self])
        refine ⟨g, ?_, g2, g3⟩
        rw [g1, hD, up_up]
      have nx : R MO 13 + 1 = nI (N - d) := by rw [h, nk1]; congr 1; omega
      rw [pSk]
      by_cases c1 : T (N - (d + 1)) = 10
      · rw [if_pos c1]
        rw [if_neg (by rw [c1]; decide), if_pos c1, if_neg (by rw [c1]; decide), l10, nx] at st
        obtain ⟨g, g1, g2, g3⟩ := step _ rfl
        exact ⟨g, st.trans g1, by omega, by omega⟩
      rw [if_neg c1]
      by_cases c2 : T (N - (d + 1)) = 35
      · rw [if_pos c2]
        rw [if_neg (by rw [c2]; decide), if_neg c1, if_pos c2, rmR (T := T) hN (d + 1) n R hd (by omega) tx h, pRm, if_neg c1] at st
        have rl := rm_le (T := T) (N := N) d
        obtain ⟨g, g1, g2, g3⟩ := ih (pRm T N d) (by omega) f' (up R MO 13 (nI (N - pRm T N d))) (by omega) (by omega) (TXr_u tx (by decide)) up_self
        refine ⟨g, ?_, by omega, by omega⟩
        rw [st, g1, up_up, sk_rm]
      rw [if_neg c2]
      by_cases c3 : T (N - (d + 1)) = 32
      · rw [if_pos c3]
        rw [if_pos c3, if_neg c2, l10, nx] at st
        obtain ⟨g, g1, g2, g3⟩ := step _ rfl
        exact ⟨g, st.trans g1, by omega, by omega⟩
      · rw [if_neg c3, if_pos rfl]
        rw [if_neg c3, if_neg c1, if_neg c2, l00] at st
        exact ⟨f', by rw [st, up_id h], by omega, by omega⟩
/-- the reference's seventy words -/
def rLs : List (List Nat) := (List.range 22).map (fun k => wLs.getD k []) ++ List.replicate 8 [] ++ (List.range 15).map (fun k => wLs.getD (22 + k) []) ++ List.replicate 5 [] ++ (List.range 4).map (fun k => wLs.getD (41 + k) []) ++ List.replicate 6 [] ++ (List.range 4).map (fun k => wLs.getD (37 + k) []) ++ [wLs.getD 45 [], wLs.getD 46 [], wLs.getD 49 [], wLs.getD 47 [], wLs.getD 48 [], [14, 15, 14, 5]]
theorem rl_le : ∀ w, w < 70 → (leN (rLs.getD w []) : Int) = (wdsL.getD w 0).toInt := by decide +kernel
theorem rl_ok : ∀ w, w < 70 → ∀ c ∈ rLs.getD w [], 1 ≤ c ∧ c ≤ 26 := by decide +kernel
theorem rl_m : ∀ k, k < 50 → rLs.getD (m2r k) [] = wLs.getD k [] ∧ m2r k < 69 := by decide +kernel
theorem rl_i : ∀ w, w < 70 → rLs.getD w [] ≠ [] → w = 69 ∨ ∃ k, k < 50 ∧ m2r k = w := by decide +kernel
theorem leN_0 {ws : List Nat} (h : ∀ c ∈ ws, 1 ≤ c ∧ c ≤ 26) : leN ws = 0 ↔ ws = [] := by
  cases ws with
  | nil => simp [leN]
  | cons c cs =>
    have := h c (List.mem_cons_self ..)
    simp only [leN]
    exact ⟨fun z => by omega, fun z => by cases z⟩
theorem lgp {x : Int64} {M : Nat} (h : x.toInt = M) : (lg_cmp x 0 ≤ 0 ↔ M = 0) ∧ (lg_cmp x 0 = 0 ↔ M = 0) := by
  have e0 : x = 0 ↔ M = 0 := by
    rw [← Int64.toInt_inj, h]
    simp only [Int64.reduceToInt]
    omega
  have eg : x > 0 ↔ 0 < M := by
    show (0 : Int64) < x ↔ _
    rw [Int64.lt_iff_toInt_lt, h]
    simp only [Int64.reduceToInt]
    omega
  refine ⟨?_, lgc.trans e0⟩
  unfold lg_cmp
  by_cases z : 0 < M
  · rw [if_pos (eg.mpr z)]
    exact ⟨fun y => absurd y (by decide), fun y => by omega⟩
  · have : M = 0 := by omega
    rw [if_neg (fun y => z (eg.mp y)), if_pos (e0.mpr this)]
    exact ⟨fun _ => this, fun _ => by decide⟩
theorem i64d {x : Int64} {c M : Nat} (hc : c < 32) (h : x.toInt = ((c + 32 * M : Nat) : Int)) : ((x &&& 31).toInt32 = nI c) ∧ (x >>> ((5 : Nat).toInt64 &&& 63)).toInt = M := by
  have e1 : (x &&& 31).toInt = x.toInt % 32 := Jvm.RoadKit.c_maskL x 31 5 (by decide) (by decide)
  have e2 : (x >>> ((5 : Int32) &&& 0x3f).toInt64).toInt = x.toInt / 32 := Jvm.RoadKit.c_lshr x 5 5 (by decide)
  have e3 : ((5 : Int32) &&& 0x3f).toInt64 = (5 : Nat).toInt64 &&& 63 := by decide
  rw [e3, h] at e2
  rw [h] at e1
  refine ⟨?_, by rw [e2]; omega⟩
  apply Int32.toInt_inj.mp
  rw [Int64.toInt_toInt32, e1, nI_toInt (by omega)]
  simp only [Int.bmod_def]
  split <;> omega
theorem mtR {T : Nat → Int32} {N n D w : Nat} {J : JM} {R : IM} {H : Int32 → Int32 → Int32 → Int32 → Option Int32} {x1 x3 : Int32} (hJ : JOK J) (hN : N ≤ 900) (hw : w < 70) (tx : TXr T N R) : ∀ (d f : Nat) (ws : List Nat) (x6 : Int64), d ≤ N → d < f → (∀ c ∈ ws, 1 ≤ c ∧ c ≤ 26) → x6.toInt = leN ws → (rLs.getD w [] = [] → ws = []) → l_Mod_wordAt_26 n J R H f x1 (nI (N - pLr T N d)) x3 (nI w) (nI (N - d)) x6 = H x1 (nI (N - pLr T N d)) (if pLw T N d = ws ∧ rLs.getD w [] ≠ [] then nI w else x3) (nI (w + 1)) := by
  have e70 : ∀ (x2 x5 : Int32) (y : Int64), b_Mod_wordAt_70 n J R H x1 x2 x3 (nI w) x5 y = if rLs.getD w [] = [] then H x1 x2 x3 (nI (w + 1)) else (if x5 = x2 then H x1 x2 (if lg_cmp y 0 = 0 then nI w else x3) (nI (w + 1)) else H x1 x2 x3 (nI (w + 1))) := by
    intro x2 x5 y
    have hz := rl_le w hw
    have jw : (J A_words w).toInt = leN (rLs.getD w []) := by rw [hz]; exact congrArg Int64.toInt (hJ.2 w hw)
    have lz := (lgp jw).1
    rw [leN_0 (rl_ok w hw)] at lz
    rw [b_Mod_wordAt_70, chk_i (nki hw (by decide)), nkc (by omega), nk1]
    by_cases z : rLs.getD w [] = []
    · rw [if_pos (lz.mpr z), if_pos z, b_Mod_wordAt_100, b_Mod_wordAt_101, nk1]
    · rw [if_neg (fun y => z (lz.mp y)), if_neg z, b_Mod_wordAt_100, b_Mod_wordAt_101, nk1]
  intro d
  induction d with
  | zero =>
    intro f ws x6 _ hf hws hx hr
    obtain ⟨f', hf'⟩ : ∃ f', f = f' + 1 := ⟨f - 1, by omega⟩
    rw [hf', l_Mod_wordAt_26, pLr, if_pos (Int32.le_refl _), e70, pLw, if_pos rfl]
    by_cases z : rLs.getD w [] = []
    · rw [if_pos z, if_neg (fun y => y.2 z)]
    · rw [if_neg z]
      have := (lgp hx).2
      rw [leN_0 hws] at this
      by_cases y : ws = []
      · rw [if_pos (this.mpr y), if_pos ⟨y.symm, z⟩]
      · rw [if_neg (fun u => y (this.mp u)), if_neg (fun u => y u.1.symm)]
  | succ d ih =>
    intro f ws x6 hd hf hws hx hr
    obtain ⟨f', hf'⟩ : ∃ f', f = f' + 1 := ⟨f - 1, by omega⟩
    subst hf'
    by_cases c1 : 97 ≤ T (N - (d + 1)) ∧ T (N - (d + 1)) ≤ 122
    · have ll := lr_le (T := T) (N := N) d
      rw [pLr, if_pos c1, pLw, if_pos c1]
      have ne : ¬ nI (N - (d + 1)) = nI (N - pLr T N d) := fun z => by have := nij (by omega) (by omega) z; omega
      rw [l_Mod_wordAt_26, if_neg (nk (by omega) (by omega))]
      have lz := (lgp hx).1
      rw [leN_0 hws] at lz
      have keep : (if rLs.getD w [] = [] then H x1 (nI (N - pLr T N d)) x3 (nI (w + 1)) else (if nI (N - (d + 1)) = nI (N - pLr T N d) then H x1 (nI (N - pLr T N d)) (if lg_cmp x6 0 = 0 then nI w else x3) (nI (w + 1)) else H x1 (nI (N - pLr T N d)) x3 (nI (w + 1)))) = H x1 (nI (N - pLr T N d)) x3 (nI (w + 1)) := by
        rw [if_neg ne]
        exact ite_self _
      by_cases z : ws = []
      · rw [if_pos (lz.mpr z), e70, keep, if_neg (fun y => by rw [z] at y; cases y.1)]
      · rw [if_neg (fun y => z (lz.mp y)), sgR hN hd tx, Option.bind_some, if_neg (Nat.succ_ne_zero d)]
        obtain ⟨c, cs, hcs⟩ : ∃ c cs, ws = c :: cs := by
          cases ws with
          | nil => exact absurd rfl z
          | cons c cs => exact ⟨c, cs, rfl⟩
        subst hcs
        have cb := hws c (List.mem_cons_self ..)
        obtain ⟨i1, i2⟩ := i64d (c := c) (M := leN cs) (by omega) hx
        have lb : 97 ≤ (T (N - (d + 1))).toInt ∧ (T (N - (d + 1))).toInt ≤ 122 := by
          have a := c1.1
          have b := c1.2
          rw [tl] at a b
          simp only [Int32.reduceToInt] at a b
          exact ⟨a, b⟩
        have n0 : ¬ T (N - (d + 1)) < 0 := by rw [ti]; simp only [Int32.reduceToInt]; omega
        have nn := nat_of n0
        have e96 : (96 : Int32) + nI c = nI (96 + c) := nad (a := 96)
        rw [i1, e96]
        by_cases y : T (N - (d + 1)) = nI (96 + c)
        · have hc : (T (N - (d + 1))).toNatClampNeg - 96 = c := by rw [y, nkc (by omega)]; omega
          rw [if_pos y, nk1, show N - (d + 1) + 1 = N - d by omega, ih f' cs _ (by omega) (by omega) (fun a ha => hws a (List.mem_cons_of_mem _ ha)) i2 (fun u => absurd (hr u) (by simp)), hc]
          have : (pLw T N d = cs ∧ rLs.getD w [] ≠ []) ↔ (c :: pLw T N d = c :: cs ∧ rLs.getD w [] ≠ []) := by
            simp
          by_cases u : pLw T N d = cs ∧ rLs.getD w [] ≠ []
          · rw [if_pos u, if_pos (this.mp u)]
          · rw [if_neg u, if_neg (fun v => u (this.mpr v))]
        · rw [if_neg y, e70, keep, if_neg (fun u => ?_)]
          have := (List.cons.inj u.1).1
          apply y
          rw [nof n0]
          congr 1
          omega
    · rw [pLr, if_neg c1, pLw, if_neg c1, l_Mod_wordAt_26, if_pos (Int32.le_refl _), e70, if_pos rfl]
      by_cases z : rLs.getD w [] = []
      · rw [if_pos z, if_neg (fun y => y.2 z)]
      · rw [if_neg z]
        have := (lgp hx).2
        rw [leN_0 hws] at this
        by_cases y : ws = []
        · rw [if_pos (this.mpr y), if_pos ⟨y.symm, z⟩]
        · rw [if_neg (fun u => y (this.mp u)), if_neg (fun u => y u.1.symm)]
