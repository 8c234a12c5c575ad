/-! the reference's constructor -/
theorem fi_Mod_1 : Fi "WardEngineModel" 10 1 := fun _ _ _ h => by cases h; exact ⟨rfl, rfl⟩
theorem fi_Mod_3 : Fi "WardEngineModel" 10 3 := fun _ _ _ h => by cases h; exact ⟨rfl, rfl⟩
theorem fi_Mod_9 : Fi "WardEngineModel" 10 9 := fun _ _ _ h => by cases h; exact ⟨rfl, rfl⟩
theorem fi_Mod_16 : Fi "WardEngineModel" 10 16 := fun _ _ _ h => by cases h; exact ⟨rfl, rfl⟩
theorem fi_Mod_17 : Fi "WardEngineModel" 10 17 := fun _ _ _ h => by cases h; exact ⟨rfl, rfl⟩
theorem fi_Mod_19 : Fi "WardEngineModel" 10 19 := fun _ _ _ h => by cases h; exact ⟨rfl, rfl⟩
theorem fi_Mod_20 : Fi "WardEngineModel" 10 20 := fun _ _ _ h => by cases h; exact ⟨rfl, rfl⟩
theorem fi_Mod_21 : Fi "WardEngineModel" 10 21 := fun _ _ _ h => by cases h; exact ⟨rfl, rfl⟩
theorem fi_Mod_22 : Fi "WardEngineModel" 10 22 := fun _ _ _ h => by cases h; exact ⟨rfl, rfl⟩
theorem fi_Mod_24 : Fi "WardEngineModel" 10 24 := fun _ _ _ h => by cases h; exact ⟨rfl, rfl⟩
theorem fi_Mod_25 : Fi "WardEngineModel" 10 25 := fun _ _ _ h => by cases h; exact ⟨rfl, rfl⟩
theorem fi_Mod_26 : Fi "WardEngineModel" 10 26 := fun _ _ _ h => by cases h; exact ⟨rfl, rfl⟩
theorem fi_Mod_27 : Fi "WardEngineModel" 10 27 := fun _ _ _ h => by cases h; exact ⟨rfl, rfl⟩
theorem fi_Mod_30 : Fi "WardEngineModel" 10 30 := fun _ _ _ h => by cases h; exact ⟨rfl, rfl⟩
theorem fi_Mod_31 : Fi "WardEngineModel" 10 31 := fun _ _ _ h => by cases h; exact ⟨rfl, rfl⟩
theorem fi_Mod_33 : Fi "WardEngineModel" 10 33 := fun _ _ _ h => by cases h; exact ⟨rfl, rfl⟩
theorem fi_Mod_35 : Fi "WardEngineModel" 10 35 := fun _ _ _ h => by cases h; exact ⟨rfl, rfl⟩
theorem fi_Mod_36 : Fi "WardEngineModel" 10 36 := fun _ _ _ h => by cases h; exact ⟨rfl, rfl⟩
theorem fi_Mod_37 : Fi "WardEngineModel" 10 37 := fun _ _ _ h => by cases h; exact ⟨rfl, rfl⟩
theorem fi_Mod_38 : Fi "WardEngineModel" 10 38 := fun _ _ _ h => by cases h; exact ⟨rfl, rfl⟩
theorem fi_Mod_39 : Fi "WardEngineModel" 10 39 := fun _ _ _ h => by cases h; exact ⟨rfl, rfl⟩
theorem fi_Mod_40 : Fi "WardEngineModel" 10 40 := fun _ _ _ h => by cases h; exact ⟨rfl, rfl⟩
theorem fi_Mod_41 : Fi "WardEngineModel" 10 41 := fun _ _ _ h => by cases h; exact ⟨rfl, rfl⟩
theorem fi_Mod_46 : Fi "WardEngineModel" 10 46 := fun _ _ _ h => by cases h; exact ⟨rfl, rfl⟩
theorem fi_Mod_47 : Fi "WardEngineModel" 10 47 := fun _ _ _ h => by cases h; exact ⟨rfl, rfl⟩
theorem fi_Mod_49 : Fi "WardEngineModel" 10 49 := fun _ _ _ h => by cases h; exact ⟨rfl, rfl⟩
theorem fi_Mod_56 : Fi "WardEngineModel" 10 56 := fun _ _ _ h => by cases h; exact ⟨rfl, rfl⟩
theorem fi_Mod_57 : Fi "WardEngineModel" 10 57 := fun _ _ _ h => by cases h; exact ⟨rfl, rfl⟩
theorem fi_Mod_60 : Fi "WardEngineModel" 10 60 := fun _ _ _ h => by cases h; exact ⟨rfl, rfl⟩
theorem fi_Mod_61 : Fi "WardEngineModel" 10 61 := fun _ _ _ h => by cases h; exact ⟨rfl, rfl⟩
theorem fi_Mod_62 : Fi "WardEngineModel" 10 62 := fun _ _ _ h => by cases h; exact ⟨rfl, rfl⟩
theorem fi_Mod_64 : Fi "WardEngineModel" 10 64 := fun _ _ _ h => by cases h; exact ⟨rfl, rfl⟩
theorem fi_Mod_65 : Fi "WardEngineModel" 10 65 := fun _ _ _ h => by cases h; exact ⟨rfl, rfl⟩
theorem fi_Mod_70 : Fi "WardEngineModel" 10 70 := fun _ _ _ h => by cases h; exact ⟨rfl, rfl⟩
theorem fi_Mod_72 : Fi "WardEngineModel" 10 72 := fun _ _ _ h => by cases h; exact ⟨rfl, rfl⟩
theorem fi_Mod_73 : Fi "WardEngineModel" 10 73 := fun _ _ _ h => by cases h; exact ⟨rfl, rfl⟩
theorem fi_Mod_74 : Fi "WardEngineModel" 10 74 := fun _ _ _ h => by cases h; exact ⟨rfl, rfl⟩
theorem fi_Mod_87 : Fi "WardEngineModel" 10 87 := fun _ _ _ h => by cases h; exact ⟨rfl, rfl⟩
def s_ModA (Δ : Dx) (σ : St) : St := (stR (stR (stR (stR (stR (stI (stI (stR (stR (stR (stR (stR (stR (stR (stR (stR (stR (stR (stR (stR (stR (stR (stR (stR (stR (stR (stR (stR (stR (stR (stR (stR (stR (stR (stR (stR (stR (stR (stR (stR σ 102 1 (.ref (Δ.ba + 103))) 102 3 (.ref (Δ.ba + 104))) 102 9 (.ref (Δ.ba + 105))) 102 16 (.ref (Δ.ba + 106))) 102 17 (.ref (Δ.ba + 107))) 102 19 (.ref (Δ.ba + 108))) 102 20 (.ref (Δ.ba + 109))) 102 21 (.ref (Δ.ba + 110))) 102 22 (.ref (Δ.ba + 111))) 102 24 (.ref (Δ.ba + 112))) 102 25 (.ref (Δ.ba + 113))) 102 26 (.ref (Δ.ba + 114))) 102 27 (.ref (Δ.ba + 115))) 102 30 (.ref (Δ.ba + 116))) 102 31 (.ref (Δ.ba + 117))) 102 33 (.ref (Δ.ba + 118))) 102 35 (.ref (Δ.ba + 119))) 102 36 (.ref (Δ.ba + 120))) 102 37 (.ref (Δ.ba + 121))) 102 38 (.ref (Δ.ba + 122))) 102 39 (.ref (Δ.ba + 123))) 102 40 (.ref (Δ.ba + 124))) 102 41 (.ref (Δ.ba + 125))) 102 46 (.ref (Δ.ba + 126))) 102 47 (.ref (Δ.ba + 127))) 102 49 (.ref (Δ.ba + 128))) 102 56 (.ref (Δ.ba + 129))) 102 57 (.ref (Δ.ba + 130))) 102 60 (.ref (Δ.ba + 131))) 102 61 (.ref (Δ.ba + 132))) 102 62 (.ref (Δ.ba + 133))) 102 64 (.ref (Δ.ba + 134))) 102 65 (.ref (Δ.ba + 135))) 102 66 (-1)) 102 68 (-1)) 102 70 (.ref (Δ.ba + 136))) 102 72 (.ref (Δ.ba + 137))) 102 73 (.ref (Δ.ba + 138))) 102 74 (.ref (Δ.ba + 139))) 102 87 (.ref (Δ.ba + 140)))
def wlst : List (Nat × Int64) := [(0, 667688), (1, 702282316259), (2, 186861), (3, 4225), (4, 690469079731), (5, 872425337517), (6, 4545), (7, 591), (8, 18936), (9, 24621218), (10, 175404), (11, 132588), (12, 5848723), (13, 538282), (14, 272041538), (15, 487), (16, 375084), (17, 21167), (18, 457), (19, 175149), (20, 540228), (21, 378925), (30, 112), (31, 1), (32, 2), (33, 3), (34, 54), (35, 86), (36, 118), (37, 23), (38, 15), (39, 9), (40, 14), (41, 168419), (42, 187144354), (43, 18912643), (44, 9016902), (50, 136366), (51, 7220), (52, 680110), (53, 19053295), (60, 599088), (61, 21612838), (62, 149392563), (63, 183330), (64, 641), (65, 150007), (66, 143528), (67, 624535313586), (68, 21676489), (69, 178670)]
def stJs (σ : St) (a : Nat) (l : List (Nat × Int64)) : St := l.foldl (fun s q => stJ s a q.1 q.2) σ
theorem stJs_snoc : ∀ (l : List (Nat × Int64)) (σ : St) (a k : Nat) (x : Int64), stJs σ a (l ++ [(k, x)]) = stJ (stJs σ a l) a k x
  | [], _, _, _, _ => rfl
  | _ :: l, σ, a, k, x => stJs_snoc l (stJ σ a _ _) a k x
theorem g_lastJ {Δ : Dx} {mi : MI} {Γ : Cx} {n k c : Nat} {τ : St} {pc : Nat} {lv : List (Option Value)} {rest : List Value} {l : List (Nat × Int64)} {a len k0 : Nat} {i : Int32} {x : Int64} (hdg : decode mi.2.1 pc = .ok (.lastore, 1)) (ho : Ar n a .long len) (hin : vp_in i len) (hk : i.toNatClampNeg = k0) (kk : GG Δ mi Γ n k c (stJs τ a (l ++ [(k0, x)])) (pc + 1) lv rest) : GG Δ mi Γ n k c (stJs τ a l) pc lv (.long x :: .int i :: .ref (Δ.ba + a) :: rest) := by
  refine g_last hdg ho hin ?_
  rw [hk, ← stJs_snoc]
  exact kk
theorem stJs_I : ∀ (l : List (Nat × Int64)) (σ : St) (a : Nat), (stJs σ a l).1 = σ.1
  | [], _, _ => rfl
  | _ :: l, σ, a => stJs_I l (stJ σ a _ _) a
theorem stJs_R : ∀ (l : List (Nat × Int64)) (σ : St) (a : Nat), (stJs σ a l).2.2 = σ.2.2
  | [], _, _ => rfl
  | _ :: l, σ, a => stJs_R l (stJ σ a _ _) a
theorem stJs_J : ∀ (l : List (Nat × Int64)) (σ : St) (a k : Nat), (stJs σ a l).2.1 a k = l.foldl (fun x q => if k = q.1 then q.2 else x) (σ.2.1 a k)
  | [], _, _, _ => rfl
  | q :: l, σ, a, k => by
    show (stJs (stJ σ a q.1 q.2) a l).2.1 a k = _
    rw [stJs_J l (stJ σ a q.1 q.2) a k]
    show l.foldl _ (upA σ.2.1 a (vp_updL (σ.2.1 a) q.1 q.2) a k) = l.foldl _ (if k = q.1 then q.2 else σ.2.1 a k)
    unfold upA
    rw [if_pos rfl]
    rfl
theorem stJs_o : ∀ (l : List (Nat × Int64)) (σ : St) (a b k : Nat), b ≠ a → (stJs σ a l).2.1 b k = σ.2.1 b k
  | [], _, _, _, _, _ => rfl
  | q :: l, σ, a, b, k, h => by
    show (stJs (stJ σ a q.1 q.2) a l).2.1 b k = _
    rw [stJs_o l (stJ σ a q.1 q.2) a b k h]
    show upA σ.2.1 a _ b k = _
    unfold upA
    rw [if_neg h]
def s_ModB (Δ : Dx) (σ : St) : St := stJs (s_ModA Δ σ) 104 wlst
theorem fJs {n b : Nat} : ∀ (l : List (Nat × Int64)) {σ : St} (_ : ∀ a, n ≤ a → Fresh σ a) (_ : b < n), ∀ a, n ≤ a → Fresh (stJs σ b l) a
  | [], _, h, _ => h
  | q :: l, _, h, hb => fJs l (fJ h hb) hb
theorem fr_ModA {Δ : Dx} {σ : St} (hF : ∀ a, 103 ≤ a → Fresh σ a) : ∀ a, 141 ≤ a → Fresh (s_ModA Δ σ) a := by
  have F0 := hF
  have F1 := fS F0
  have F2 := fR (b := 102) (j := 1) (v := .ref (Δ.ba + 103)) F1 (by decide)
  have F3 := fS F2
  have F4 := fR (b := 102) (j := 3) (v := .ref (Δ.ba + 104)) F3 (by decide)
  have F5 := fS F4
  have F6 := fR (b := 102) (j := 9) (v := .ref (Δ.ba + 105)) F5 (by decide)
  have F7 := fS F6
  have F8 := fR (b := 102) (j := 16) (v := .ref (Δ.ba + 106)) F7 (by decide)
  have F9 := fS F8
  have F10 := fR (b := 102) (j := 17) (v := .ref (Δ.ba + 107)) F9 (by decide)
  have F11 := fS F10
  have F12 := fR (b := 102) (j := 19) (v := .ref (Δ.ba + 108)) F11 (by decide)
  have F13 := fS F12
  have F14 := fR (b := 102) (j := 20) (v := .ref (Δ.ba + 109)) F13 (by decide)
  have F15 := fS F14
  have F16 := fR (b := 102) (j := 21) (v := .ref (Δ.ba + 110)) F15 (by decide)
  have F17 := fS F16
  have F18 := fR (b := 102) (j := 22) (v := .ref (Δ.ba + 111)) F17 (by decide)
  have F19 := fS F18
  have F20 := fR (b := 102) (j := 24) (v := .ref (Δ.ba + 112)) F19 (by decide)
  have F21 := fS F20
  have F22 := fR (b := 102) (j := 25) (v := .ref (Δ.ba + 113)) F21 (by decide)
  have F23 := fS F22
  have F24 := fR (b := 102) (j := 26) (v := .ref (Δ.ba + 114)) F23 (by decide)
  have F25 := fS F24
  have F26 := fR (b := 102) (j := 27) (v := .ref (Δ.ba + 115)) F25 (by decide)
  have F27 := fS F26
  have F28 := fR (b := 102) (j := 30) (v := .ref (Δ.ba + 116)) F27 (by decide)
  have F29 := fS F28
  have F30 := fR (b := 102) (j := 31) (v := .ref (Δ.ba + 117)) F29 (by decide)
  have F31 := fS F30
  have F32 := fR (b := 102) (j := 33) (v := .ref (Δ.ba + 118)) F31 (by decide)
  have F33 := fS F32
  have F34 := fR (b := 102) (j := 35) (v := .ref (Δ.ba + 119)) F33 (by decide)
  have F35 := fS F34
  have F36 := fR (b := 102) (j := 36) (v := .ref (Δ.ba + 120)) F35 (by decide)
  have F37 := fS F36
  have F38 := fR (b := 102) (j := 37) (v := .ref (Δ.ba + 121)) F37 (by decide)
  have F39 := fS F38
  have F40 := fR (b := 102) (j := 38) (v := .ref (Δ.ba + 122)) F39 (by decide)
  have F41 := fS F40
  have F42 := fR (b := 102) (j := 39) (v := .ref (Δ.ba + 123)) F41 (by decide)
  have F43 := fS F42
  have F44 := fR (b := 102) (j := 40) (v := .ref (Δ.ba + 124)) F43 (by decide)
  have F45 := fS F44
  have F46 := fR (b := 102) (j := 41) (v := .ref (Δ.ba + 125)) F45 (by decide)
  have F47 := fS F46
  have F48 := fR (b := 102) (j := 46) (v := .ref (Δ.ba + 126)) F47 (by decide)
  have F49 := fS F48
  have F50 := fR (b := 102) (j := 47) (v := .ref (Δ.ba + 127)) F49 (by decide)
  have F51 := fS F50
  have F52 := fR (b := 102) (j := 49) (v := .ref (Δ.ba + 128)) F51 (by decide)
  have F53 := fS F52
  have F54 := fR (b := 102) (j := 56) (v := .ref (Δ.ba + 129)) F53 (by decide)
  have F55 := fS F54
  have F56 := fR (b := 102) (j := 57) (v := .ref (Δ.ba + 130)) F55 (by decide)
  have F57 := fS F56
  have F58 := fR (b := 102) (j := 60) (v := .ref (Δ.ba + 131)) F57 (by decide)
  have F59 := fS F58
  have F60 := fR (b := 102) (j := 61) (v := .ref (Δ.ba + 132)) F59 (by decide)
  have F61 := fS F60
  have F62 := fR (b := 102) (j := 62) (v := .ref (Δ.ba + 133)) F61 (by decide)
  have F63 := fS F62
  have F64 := fR (b := 102) (j := 64) (v := .ref (Δ.ba + 134)) F63 (by decide)
  have F65 := fS F64
  have F66 := fR (b := 102) (j := 65) (v := .ref (Δ.ba + 135)) F65 (by decide)
  have F67 := fI (b := 102) (j := 66) (v := (-1)) F66 (by decide)
  have F68 := fI (b := 102) (j := 68) (v := (-1)) F67 (by decide)
  have F69 := fS F68
  have F70 := fR (b := 102) (j := 70) (v := .ref (Δ.ba + 136)) F69 (by decide)
  have F71 := fS F70
  have F72 := fR (b := 102) (j := 72) (v := .ref (Δ.ba + 137)) F71 (by decide)
  have F73 := fS F72
  have F74 := fR (b := 102) (j := 73) (v := .ref (Δ.ba + 138)) F73 (by decide)
  have F75 := fS F74
  have F76 := fR (b := 102) (j := 74) (v := .ref (Δ.ba + 139)) F75 (by decide)
  have F77 := fS F76
  have F78 := fR (b := 102) (j := 87) (v := .ref (Δ.ba + 140)) F77 (by decide)
  exact F78
set_option maxRecDepth 20000 in
theorem mx_ModB {Δ : Dx} {σ : St} (hF : ∀ a, 103 ≤ a → Fresh σ a) : MX Δ (s_ModB Δ σ).2 := by
  have eR : (s_ModB Δ σ).2.2 = (s_ModA Δ σ).2.2 := stJs_R _ _ _
  refine ⟨?_, fun k hk => ?_⟩
  · rw [eR]
    exact ⟨rfl, rfl, rfl, rfl, rfl, rfl, rfl, rfl, rfl, rfl, rfl, rfl, rfl, rfl, rfl, rfl, rfl, rfl, rfl, rfl, rfl, rfl, rfl, rfl, rfl, rfl, rfl, rfl, rfl, rfl, rfl, rfl, rfl, rfl, rfl, rfl, rfl, rfl⟩
  · show (stJs (s_ModA Δ σ) 104 wlst).2.1 104 k = _
    rw [stJs_J]
    rw [show (s_ModA Δ σ).2.1 104 k = 0 from (hF 104 (by decide)).2.1 k]
    revert hk
    revert k
    decide +kernel
def s_ModC (Δ : Dx) (σ : St) : St := (s_Mod_moveAll (s_Mod_setUp (fillI (s_ModB Δ σ) A_ruleOf 44 (-1)).1 0) 0, (s_ModB Δ σ).2)
set_option maxRecDepth 20000 in
set_option maxHeartbeats 4000000 in
theorem ec_Mod {Δ : Dx} {σ : St} (hF : ∀ a, 103 ≤ a → Fresh σ a) : EvC Δ 2 m_Mod_init 103 [.ref (Δ.ba + 102)] σ 141 (s_ModC Δ σ) 38 14954 := by
  refine evC_of (by decide) (Nat.le_of_ble_eq_true rfl) (fun Γ hk hR hT hz => ?_)
  have F0 := hF
  refine g_aload_n (pc := 0) (dd d_Mod_init 0 rfl) rfl ?_
  refine g_objInit (pc := 1) (dd d_Mod_init 1 rfl) oi_Mod_1 oi_1 oi_2 (by rw [hk]; decide) (Nat.le_of_ble_eq_true rfl) ?_
  refine g_aload_n (pc := 4) (dd d_Mod_init 2 rfl) rfl ?_
  refine g_sipush (pc := 5) (v := 900) (dd d_Mod_init 3 rfl) (by decide) ?_
  refine g_newa (pc := 8) (N := 900) (t := 0) (dd d_Mod_init 4 rfl) rfl ac_int rfl rfl (by decide) (by decide) (by decide) (F0 _ (by decide)) (by omega) (by rw [hR]; decide) (by rw [hR]; decide) (Or.inl rfl) ?_
  have F1 := fS F0
  refine g_putR (pc := 10) (j := 1) (dd d_Mod_init 5 rfl) f_Mod_7 (Or.inr ⟨fi_Mod_1, rfl⟩) ⟨by decide, rfl⟩ rfl (fun _ => rfl) (fun _ => rfl) ?_
  have F2 := fR (b := 102) (j := 1) (v := .ref (Δ.ba + 103)) F1 (by decide)
  refine g_aload_n (pc := 13) (dd d_Mod_init 6 rfl) rfl ?_
  refine g_bipush (pc := 14) (v := 70) (dd d_Mod_init 7 rfl) (by decide) ?_
  refine g_newa (pc := 16) (N := 70) (t := 1) (dd d_Mod_init 8 rfl) rfl ac_long rfl rfl (by decide) (by decide) (by decide) (F2 _ (by decide)) (by omega) (by rw [hR]; decide) (by rw [hR]; decide) (Or.inr (Or.inl rfl)) ?_
  have F3 := fS F2
  refine g_putR (pc := 18) (j := 3) (dd d_Mod_init 9 rfl) f_Mod_13 (Or.inr ⟨fi_Mod_3, rfl⟩) ⟨by decide, rfl⟩ rfl (fun _ => rfl) (fun _ => rfl) ?_
  have F4 := fR (b := 102) (j := 3) (v := .ref (Δ.ba + 104)) F3 (by decide)
  refine g_aload_n (pc := 21) (dd d_Mod_init 10 rfl) rfl ?_
  refine g_bipush (pc := 22) (v := 100) (dd d_Mod_init 11 rfl) (by decide) ?_
  refine g_newa (pc := 24) (N := 100) (t := 0) (dd d_Mod_init 12 rfl) rfl ac_int rfl rfl (by decide) (by decide) (by decide) (F4 _ (by decide)) (by omega) (by rw [hR]; decide) (by rw [hR]; decide) (Or.inl rfl) ?_
  have F5 := fS F4
  refine g_putR (pc := 26) (j := 9) (dd d_Mod_init 13 rfl) f_Mod_17 (Or.inr ⟨fi_Mod_9, rfl⟩) ⟨by decide, rfl⟩ rfl (fun _ => rfl) (fun _ => rfl) ?_
  have F6 := fR (b := 102) (j := 9) (v := .ref (Δ.ba + 105)) F5 (by decide)
  refine g_aload_n (pc := 29) (dd d_Mod_init 14 rfl) rfl ?_
  refine g_sipush (pc := 30) (v := 2000) (dd d_Mod_init 15 rfl) (by decide) ?_
  refine g_newa (pc := 33) (N := 2000) (t := 0) (dd d_Mod_init 16 rfl) rfl ac_int rfl rfl (by decide) (by decide) (by decide) (F6 _ (by decide)) (by omega) (by rw [hR]; decide) (by rw [hR]; decide) (Or.inl rfl) ?_
  have F7 := fS F6
  refine g_putR (pc := 35) (j := 16) (dd d_Mod_init 17 rfl) f_Mod_20 (Or.inr ⟨fi_Mod_16, rfl⟩) ⟨by decide, rfl⟩ rfl (fun _ => rfl) (fun _ => rfl) ?_
  have F8 := fR (b := 102) (j := 16) (v := .ref (Δ.ba + 106)) F7 (by decide)
  refine g_aload_n (pc := 38) (dd d_Mod_init 18 rfl) rfl ?_
  refine g_sipush (pc := 39) (v := 2000) (dd d_Mod_init 19 rfl) (by decide) ?_
  refine g_newa (pc := 42) (N := 2000) (t := 0) (dd d_Mod_init 20 rfl) rfl ac_int rfl rfl (by decide) (by decide) (by decide) (F8 _ (by decide)) (by omega) (by rw [hR]; decide) (by rw [hR]; decide) (Or.inl rfl) ?_
  have F9 := fS F8
  refine g_putR (pc := 44) (j := 17) (dd d_Mod_init 21 rfl) f_Mod_23 (Or.inr ⟨fi_Mod_17, rfl⟩) ⟨by decide, rfl⟩ rfl (fun _ => rfl) (fun _ => rfl) ?_
  have F10 := fR (b := 102) (j := 17) (v := .ref (Δ.ba + 107)) F9 (by decide)
  refine g_aload_n (pc := 47) (dd d_Mod_init 22 rfl) rfl ?_
  refine g_sipush (pc := 48) (v := 600) (dd d_Mod_init 23 rfl) (by decide) ?_
  refine g_newa (pc := 51) (N := 600) (t := 0) (dd d_Mod_init 24 rfl) rfl ac_int rfl rfl (by decide) (by decide) (by decide) (F10 _ (by decide)) (by omega) (by rw [hR]; decide) (by rw [hR]; decide) (Or.inl rfl) ?_
  have F11 := fS F10
  refine g_putR (pc := 53) (j := 19) (dd d_Mod_init 25 rfl) f_Mod_26 (Or.inr ⟨fi_Mod_19, rfl⟩) ⟨by decide, rfl⟩ rfl (fun _ => rfl) (fun _ => rfl) ?_
  have F12 := fR (b := 102) (j := 19) (v := .ref (Δ.ba + 108)) F11 (by decide)
  refine g_aload_n (pc := 56) (dd d_Mod_init 26 rfl) rfl ?_
  refine g_sipush (pc := 57) (v := 300) (dd d_Mod_init 27 rfl) (by decide) ?_
  refine g_newa (pc := 60) (N := 300) (t := 0) (dd d_Mod_init 28 rfl) rfl ac_int rfl rfl (by decide) (by decide) (by decide) (F12 _ (by decide)) (by omega) (by rw [hR]; decide) (by rw [hR]; decide) (Or.inl rfl) ?_
  have F13 := fS F12
  refine g_putR (pc := 62) (j := 20) (dd d_Mod_init 29 rfl) f_Mod_29 (Or.inr ⟨fi_Mod_20, rfl⟩) ⟨by decide, rfl⟩ rfl (fun _ => rfl) (fun _ => rfl) ?_
  have F14 := fR (b := 102) (j := 20) (v := .ref (Δ.ba + 109)) F13 (by decide)
  refine g_aload_n (pc := 65) (dd d_Mod_init 30 rfl) rfl ?_
  refine g_sipush (pc := 66) (v := 600) (dd d_Mod_init 31 rfl) (by decide) ?_
  refine g_newa (pc := 69) (N := 600) (t := 0) (dd d_Mod_init 32 rfl) rfl ac_int rfl rfl (by decide) (by decide) (by decide) (F14 _ (by decide)) (by omega) (by rw [hR]; decide) (by rw [hR]; decide) (Or.inl rfl) ?_
  have F15 := fS F14
  refine g_putR (pc := 71) (j := 21) (dd d_Mod_init 33 rfl) f_Mod_32 (Or.inr ⟨fi_Mod_21, rfl⟩) ⟨by decide, rfl⟩ rfl (fun _ => rfl) (fun _ => rfl) ?_
  have F16 := fR (b := 102) (j := 21) (v := .ref (Δ.ba + 110)) F15 (by decide)
  refine g_aload_n (pc := 74) (dd d_Mod_init 34 rfl) rfl ?_
  refine g_sipush (pc := 75) (v := 600) (dd d_Mod_init 35 rfl) (by decide) ?_
  refine g_newa (pc := 78) (N := 600) (t := 0) (dd d_Mod_init 36 rfl) rfl ac_int rfl rfl (by decide) (by decide) (by decide) (F16 _ (by decide)) (by omega) (by rw [hR]; decide) (by rw [hR]; decide) (Or.inl rfl) ?_
  have F17 := fS F16
  refine g_putR (pc := 80) (j := 22) (dd d_Mod_init 37 rfl) f_Mod_35 (Or.inr ⟨fi_Mod_22, rfl⟩) ⟨by decide, rfl⟩ rfl (fun _ => rfl) (fun _ => rfl) ?_
  have F18 := fR (b := 102) (j := 22) (v := .ref (Δ.ba + 111)) F17 (by decide)
  refine g_aload_n (pc := 83) (dd d_Mod_init 38 rfl) rfl ?_
  refine g_sipush (pc := 84) (v := 602) (dd d_Mod_init 39 rfl) (by decide) ?_
  refine g_newa (pc := 87) (N := 602) (t := 0) (dd d_Mod_init 40 rfl) rfl ac_int rfl rfl (by decide) (by decide) (by decide) (F18 _ (by decide)) (by omega) (by rw [hR]; decide) (by rw [hR]; decide) (Or.inl rfl) ?_
  have F19 := fS F18
  refine g_putR (pc := 89) (j := 24) (dd d_Mod_init 41 rfl) f_Mod_38 (Or.inr ⟨fi_Mod_24, rfl⟩) ⟨by decide, rfl⟩ rfl (fun _ => rfl) (fun _ => rfl) ?_
  have F20 := fR (b := 102) (j := 24) (v := .ref (Δ.ba + 112)) F19 (by decide)
  refine g_aload_n (pc := 92) (dd d_Mod_init 42 rfl) rfl ?_
  refine g_sipush (pc := 93) (v := 602) (dd d_Mod_init 43 rfl) (by decide) ?_
  refine g_newa (pc := 96) (N := 602) (t := 0) (dd d_Mod_init 44 rfl) rfl ac_int rfl rfl (by decide) (by decide) (by decide) (F20 _ (by decide)) (by omega) (by rw [hR]; decide) (by rw [hR]; decide) (Or.inl rfl) ?_
  have F21 := fS F20
  refine g_putR (pc := 98) (j := 25) (dd d_Mod_init 45 rfl) f_Mod_41 (Or.inr ⟨fi_Mod_25, rfl⟩) ⟨by decide, rfl⟩ rfl (fun _ => rfl) (fun _ => rfl) ?_
  have F22 := fR (b := 102) (j := 25) (v := .ref (Δ.ba + 113)) F21 (by decide)
  refine g_aload_n (pc := 101) (dd d_Mod_init 46 rfl) rfl ?_
  refine g_bipush (pc := 102) (v := 44) (dd d_Mod_init 47 rfl) (by decide) ?_
  refine g_newa (pc := 104) (N := 44) (t := 0) (dd d_Mod_init 48 rfl) rfl ac_int rfl rfl (by decide) (by decide) (by decide) (F22 _ (by decide)) (by omega) (by rw [hR]; decide) (by rw [hR]; decide) (Or.inl rfl) ?_
  have F23 := fS F22
  refine g_putR (pc := 106) (j := 26) (dd d_Mod_init 49 rfl) f_Mod_44 (Or.inr ⟨fi_Mod_26, rfl⟩) ⟨by decide, rfl⟩ rfl (fun _ => rfl) (fun _ => rfl) ?_
  have F24 := fR (b := 102) (j := 26) (v := .ref (Δ.ba + 114)) F23 (by decide)
  refine g_aload_n (pc := 109) (dd d_Mod_init 50 rfl) rfl ?_
  refine g_sipush (pc := 110) (v := 602) (dd d_Mod_init 51 rfl) (by decide) ?_
  refine g_newa (pc := 113) (N := 602) (t := 0) (dd d_Mod_init 52 rfl) rfl ac_int rfl rfl (by decide) (by decide) (by decide) (F24 _ (by decide)) (by omega) (by rw [hR]; decide) (by rw [hR]; decide) (Or.inl rfl) ?_
  have F25 := fS F24
  refine g_putR (pc := 115) (j := 27) (dd d_Mod_init 53 rfl) f_Mod_47 (Or.inr ⟨fi_Mod_27, rfl⟩) ⟨by decide, rfl⟩ rfl (fun _ => rfl) (fun _ => rfl) ?_
  have F26 := fR (b := 102) (j := 27) (v := .ref (Δ.ba + 115)) F25 (by decide)
  refine g_aload_n (pc := 118) (dd d_Mod_init 54 rfl) rfl ?_
  refine g_sipush (pc := 119) (v := 1000) (dd d_Mod_init 55 rfl) (by decide) ?_
  refine g_newa (pc := 122) (N := 1000) (t := 0) (dd d_Mod_init 56 rfl) rfl ac_int rfl rfl (by decide) (by decide) (by decide) (F26 _ (by decide)) (by omega) (by rw [hR]; decide) (by rw [hR]; decide) (Or.inl rfl) ?_
  have F27 := fS F26
  refine g_putR (pc := 124) (j := 30) (dd d_Mod_init 57 rfl) f_Mod_50 (Or.inr ⟨fi_Mod_30, rfl⟩) ⟨by decide, rfl⟩ rfl (fun _ => rfl) (fun _ => rfl) ?_
  have F28 := fR (b := 102) (j := 30) (v := .ref (Δ.ba + 116)) F27 (by decide)
  refine g_aload_n (pc := 127) (dd d_Mod_init 58 rfl) rfl ?_
  refine g_sipush (pc := 128) (v := 1000) (dd d_Mod_init 59 rfl) (by decide) ?_
  refine g_newa (pc := 131) (N := 1000) (t := 0) (dd d_Mod_init_1 0 rfl) rfl ac_int rfl rfl (by decide) (by decide) (by decide) (F28 _ (by decide)) (by omega) (by rw [hR]; decide) (by rw [hR]; decide) (Or.inl rfl) ?_
  have F29 := fS F28
  refine g_putR (pc := 133) (j := 31) (dd d_Mod_init_1 1 rfl) f_Mod_53 (Or.inr ⟨fi_Mod_31, rfl⟩) ⟨by decide, rfl⟩ rfl (fun _ => rfl) (fun _ => rfl) ?_
  have F30 := fR (b := 102) (j := 31) (v := .ref (Δ.ba + 117)) F29 (by decide)
  refine g_aload_n (pc := 136) (dd d_Mod_init_1 2 rfl) rfl ?_
  refine g_sipush (pc := 137) (v := 900) (dd d_Mod_init_1 3 rfl) (by decide) ?_
  refine g_newa (pc := 140) (N := 900) (t := 0) (dd d_Mod_init_1 4 rfl) rfl ac_int rfl rfl (by decide) (by decide) (by decide) (F30 _ (by decide)) (by omega) (by rw [hR]; decide) (by rw [hR]; decide) (Or.inl rfl) ?_
  have F31 := fS F30
  refine g_putR (pc := 142) (j := 33) (dd d_Mod_init_1 5 rfl) f_Mod_56 (Or.inr ⟨fi_Mod_33, rfl⟩) ⟨by decide, rfl⟩ rfl (fun _ => rfl) (fun _ => rfl) ?_
  have F32 := fR (b := 102) (j := 33) (v := .ref (Δ.ba + 118)) F31 (by decide)
  refine g_aload_n (pc := 145) (dd d_Mod_init_1 6 rfl) rfl ?_
  refine g_bipush (pc := 146) (v := 64) (dd d_Mod_init_1 7 rfl) (by decide) ?_
  refine g_newa (pc := 148) (N := 64) (t := 0) (dd d_Mod_init_1 8 rfl) rfl ac_int rfl rfl (by decide) (by decide) (by decide) (F32 _ (by decide)) (by omega) (by rw [hR]; decide) (by rw [hR]; decide) (Or.inl rfl) ?_
  have F33 := fS F32
  refine g_putR (pc := 150) (j := 35) (dd d_Mod_init_1 9 rfl) f_Mod_59 (Or.inr ⟨fi_Mod_35, rfl⟩) ⟨by decide, rfl⟩ rfl (fun _ => rfl) (fun _ => rfl) ?_
  have F34 := fR (b := 102) (j := 35) (v := .ref (Δ.ba + 119)) F33 (by decide)
  refine g_aload_n (pc := 153) (dd d_Mod_init_1 10 rfl) rfl ?_
  refine g_bipush (pc := 154) (v := 64) (dd d_Mod_init_1 11 rfl) (by decide) ?_
  refine g_newa (pc := 156) (N := 64) (t := 0) (dd d_Mod_init_1 12 rfl) rfl ac_int rfl rfl (by decide) (by decide) (by decide) (F34 _ (by decide)) (by omega) (by rw [hR]; decide) (by rw [hR]; decide) (Or.inl rfl) ?_
  have F35 := fS F34
  refine g_putR (pc := 158) (j := 36) (dd d_Mod_init_1 13 rfl) f_Mod_62 (Or.inr ⟨fi_Mod_36, rfl⟩) ⟨by decide, rfl⟩ rfl (fun _ => rfl) (fun _ => rfl) ?_
  have F36 := fR (b := 102) (j := 36) (v := .ref (Δ.ba + 120)) F35 (by decide)
  refine g_aload_n (pc := 161) (dd d_Mod_init_1 14 rfl) rfl ?_
  refine g_bipush (pc := 162) (v := 96) (dd d_Mod_init_1 15 rfl) (by decide) ?_
  refine g_newa (pc := 164) (N := 96) (t := 0) (dd d_Mod_init_1 16 rfl) rfl ac_int rfl rfl (by decide) (by decide) (by decide) (F36 _ (by decide)) (by omega) (by rw [hR]; decide) (by rw [hR]; decide) (Or.inl rfl) ?_
  have F37 := fS F36
  refine g_putR (pc := 166) (j := 37) (dd d_Mod_init_1 17 rfl) f_Mod_65 (Or.inr ⟨fi_Mod_37, rfl⟩) ⟨by decide, rfl⟩ rfl (fun _ => rfl) (fun _ => rfl) ?_
  have F38 := fR (b := 102) (j := 37) (v := .ref (Δ.ba + 121)) F37 (by decide)
  refine g_aload_n (pc := 169) (dd d_Mod_init_1 18 rfl) rfl ?_
  refine g_bipush (pc := 170) (v := 96) (dd d_Mod_init_1 19 rfl) (by decide) ?_
  refine g_newa (pc := 172) (N := 96) (t := 0) (dd d_Mod_init_1 20 rfl) rfl ac_int rfl rfl (by decide) (by decide) (by decide) (F38 _ (by decide)) (by omega) (by rw [hR]; decide) (by rw [hR]; decide) (Or.inl rfl) ?_
  have F39 := fS F38
  refine g_putR (pc := 174) (j := 38) (dd d_Mod_init_1 21 rfl) f_Mod_68 (Or.inr ⟨fi_Mod_38, rfl⟩) ⟨by decide, rfl⟩ rfl (fun _ => rfl) (fun _ => rfl) ?_
  have F40 := fR (b := 102) (j := 38) (v := .ref (Δ.ba + 122)) F39 (by decide)
  refine g_aload_n (pc := 177) (dd d_Mod_init_1 22 rfl) rfl ?_
  refine g_bipush (pc := 178) (v := 96) (dd d_Mod_init_1 23 rfl) (by decide) ?_
  refine g_newa (pc := 180) (N := 96) (t := 0) (dd d_Mod_init_1 24 rfl) rfl ac_int rfl rfl (by decide) (by decide) (by decide) (F40 _ (by decide)) (by omega) (by rw [hR]; decide) (by rw [hR]; decide) (Or.inl rfl) ?_
  have F41 := fS F40
  refine g_putR (pc := 182) (j := 39) (dd d_Mod_init_1 25 rfl) f_Mod_71 (Or.inr ⟨fi_Mod_39, rfl⟩) ⟨by decide, rfl⟩ rfl (fun _ => rfl) (fun _ => rfl) ?_
  have F42 := fR (b := 102) (j := 39) (v := .ref (Δ.ba + 123)) F41 (by decide)
  refine g_aload_n (pc := 185) (dd d_Mod_init_1 26 rfl) rfl ?_
  refine g_bipush (pc := 186) (v := 8) (dd d_Mod_init_1 27 rfl) (by decide) ?_
  refine g_newa (pc := 188) (N := 8) (t := 0) (dd d_Mod_init_1 28 rfl) rfl ac_int rfl rfl (by decide) (by decide) (by decide) (F42 _ (by decide)) (by omega) (by rw [hR]; decide) (by rw [hR]; decide) (Or.inl rfl) ?_
  have F43 := fS F42
  refine g_putR (pc := 190) (j := 40) (dd d_Mod_init_1 29 rfl) f_Mod_74 (Or.inr ⟨fi_Mod_40, rfl⟩) ⟨by decide, rfl⟩ rfl (fun _ => rfl) (fun _ => rfl) ?_
  have F44 := fR (b := 102) (j := 40) (v := .ref (Δ.ba + 124)) F43 (by decide)
  refine g_aload_n (pc := 193) (dd d_Mod_init_1 30 rfl) rfl ?_
  refine g_bipush (pc := 194) (v := 8) (dd d_Mod_init_1 31 rfl) (by decide) ?_
  refine g_newa (pc := 196) (N := 8) (t := 0) (dd d_Mod_init_1 32 rfl) rfl ac_int rfl rfl (by decide) (by decide) (by decide) (F44 _ (by decide)) (by omega) (by rw [hR]; decide) (by rw [hR]; decide) (Or.inl rfl) ?_
  have F45 := fS F44
  refine g_putR (pc := 198) (j := 41) (dd d_Mod_init_1 33 rfl) f_Mod_77 (Or.inr ⟨fi_Mod_41, rfl⟩) ⟨by decide, rfl⟩ rfl (fun _ => rfl) (fun _ => rfl) ?_
  have F46 := fR (b := 102) (j := 41) (v := .ref (Δ.ba + 125)) F45 (by decide)
  refine g_aload_n (pc := 201) (dd d_Mod_init_1 34 rfl) rfl ?_
  refine g_bipush (pc := 202) (v := 16) (dd d_Mod_init_1 35 rfl) (by decide) ?_
  refine g_newa (pc := 204) (N := 16) (t := 0) (dd d_Mod_init_1 36 rfl) rfl ac_int rfl rfl (by decide) (by decide) (by decide) (F46 _ (by decide)) (by omega) (by rw [hR]; decide) (by rw [hR]; decide) (Or.inl rfl) ?_
  have F47 := fS F46
  refine g_putR (pc := 206) (j := 46) (dd d_Mod_init_1 37 rfl) f_Mod_80 (Or.inr ⟨fi_Mod_46, rfl⟩) ⟨by decide, rfl⟩ rfl (fun _ => rfl) (fun _ => rfl) ?_
  have F48 := fR (b := 102) (j := 46) (v := .ref (Δ.ba + 126)) F47 (by decide)
  refine g_aload_n (pc := 209) (dd d_Mod_init_1 38 rfl) rfl ?_
  refine g_bipush (pc := 210) (v := 16) (dd d_Mod_init_1 39 rfl) (by decide) ?_
  refine g_newa (pc := 212) (N := 16) (t := 0) (dd d_Mod_init_1 40 rfl) rfl ac_int rfl rfl (by decide) (by decide) (by decide) (F48 _ (by decide)) (by omega) (by rw [hR]; decide) (by rw [hR]; decide) (Or.inl rfl) ?_
  have F49 := fS F48
  refine g_putR (pc := 214) (j := 47) (dd d_Mod_init_1 41 rfl) f_Mod_83 (Or.inr ⟨fi_Mod_47, rfl⟩) ⟨by decide, rfl⟩ rfl (fun _ => rfl) (fun _ => rfl) ?_
  have F50 := fR (b := 102) (j := 47) (v := .ref (Δ.ba + 127)) F49 (by decide)
  refine g_aload_n (pc := 217) (dd d_Mod_init_1 42 rfl) rfl ?_
  refine g_bipush (pc := 218) (v := 40) (dd d_Mod_init_1 43 rfl) (by decide) ?_
  refine g_newa (pc := 220) (N := 40) (t := 0) (dd d_Mod_init_1 44 rfl) rfl ac_int rfl rfl (by decide) (by decide) (by decide) (F50 _ (by decide)) (by omega) (by rw [hR]; decide) (by rw [hR]; decide) (Or.inl rfl) ?_
  have F51 := fS F50
  refine g_putR (pc := 222) (j := 49) (dd d_Mod_init_1 45 rfl) f_Mod_86 (Or.inr ⟨fi_Mod_49, rfl⟩) ⟨by decide, rfl⟩ rfl (fun _ => rfl) (fun _ => rfl) ?_
  have F52 := fR (b := 102) (j := 49) (v := .ref (Δ.ba + 128)) F51 (by decide)
  refine g_aload_n (pc := 225) (dd d_Mod_init_1 46 rfl) rfl ?_
  refine g_bipush (pc := 226) (v := 60) (dd d_Mod_init_1 47 rfl) (by decide) ?_
  refine g_newa (pc := 228) (N := 60) (t := 0) (dd d_Mod_init_1 48 rfl) rfl ac_int rfl rfl (by decide) (by decide) (by decide) (F52 _ (by decide)) (by omega) (by rw [hR]; decide) (by rw [hR]; decide) (Or.inl rfl) ?_
  have F53 := fS F52
  refine g_putR (pc := 230) (j := 56) (dd d_Mod_init_1 49 rfl) f_Mod_89 (Or.inr ⟨fi_Mod_56, rfl⟩) ⟨by decide, rfl⟩ rfl (fun _ => rfl) (fun _ => rfl) ?_
  have F54 := fR (b := 102) (j := 56) (v := .ref (Δ.ba + 129)) F53 (by decide)
  refine g_aload_n (pc := 233) (dd d_Mod_init_1 50 rfl) rfl ?_
  refine g_bipush (pc := 234) (v := 60) (dd d_Mod_init_1 51 rfl) (by decide) ?_
  refine g_newa (pc := 236) (N := 60) (t := 0) (dd d_Mod_init_1 52 rfl) rfl ac_int rfl rfl (by decide) (by decide) (by decide) (F54 _ (by decide)) (by omega) (by rw [hR]; decide) (by rw [hR]; decide) (Or.inl rfl) ?_
  have F55 := fS F54
  refine g_putR (pc := 238) (j := 57) (dd d_Mod_init_1 53 rfl) f_Mod_92 (Or.inr ⟨fi_Mod_57, rfl⟩) ⟨by decide, rfl⟩ rfl (fun _ => rfl) (fun _ => rfl) ?_
  have F56 := fR (b := 102) (j := 57) (v := .ref (Δ.ba + 130)) F55 (by decide)
  refine g_aload_n (pc := 241) (dd d_Mod_init_1 54 rfl) rfl ?_
  refine g_sipush (pc := 242) (v := 128) (dd d_Mod_init_1 55 rfl) (by decide) ?_
  refine g_newa (pc := 245) (N := 128) (t := 0) (dd d_Mod_init_1 56 rfl) rfl ac_int rfl rfl (by decide) (by decide) (by decide) (F56 _ (by decide)) (by omega) (by rw [hR]; decide) (by rw [hR]; decide) (Or.inl rfl) ?_
  have F57 := fS F56
  refine g_putR (pc := 247) (j := 60) (dd d_Mod_init_1 57 rfl) f_Mod_95 (Or.inr ⟨fi_Mod_60, rfl⟩) ⟨by decide, rfl⟩ rfl (fun _ => rfl) (fun _ => rfl) ?_
  have F58 := fR (b := 102) (j := 60) (v := .ref (Δ.ba + 131)) F57 (by decide)
  refine g_aload_n (pc := 250) (dd d_Mod_init_1 58 rfl) rfl ?_
  refine g_bipush (pc := 251) (v := 40) (dd d_Mod_init_1 59 rfl) (by decide) ?_
  refine g_newa (pc := 253) (N := 40) (t := 0) (dd d_Mod_init_2 0 rfl) rfl ac_int rfl rfl (by decide) (by decide) (by decide) (F58 _ (by decide)) (by omega) (by rw [hR]; decide) (by rw [hR]; decide) (Or.inl rfl) ?_
  have F59 := fS F58
  refine g_putR (pc := 255) (j := 61) (dd d_Mod_init_2 1 rfl) f_Mod_98 (Or.inr ⟨fi_Mod_61, rfl⟩) ⟨by decide, rfl⟩ rfl (fun _ => rfl) (fun _ => rfl) ?_
  have F60 := fR (b := 102) (j := 61) (v := .ref (Δ.ba + 132)) F59 (by decide)
  refine g_aload_n (pc := 258) (dd d_Mod_init_2 2 rfl) rfl ?_
  refine g_bipush (pc := 259) (v := 16) (dd d_Mod_init_2 3 rfl) (by decide) ?_
  refine g_newa (pc := 261) (N := 16) (t := 0) (dd d_Mod_init_2 4 rfl) rfl ac_int rfl rfl (by decide) (by decide) (by decide) (F60 _ (by decide)) (by omega) (by rw [hR]; decide) (by rw [hR]; decide) (Or.inl rfl) ?_
  have F61 := fS F60
  refine g_putR (pc := 263) (j := 62) (dd d_Mod_init_2 5 rfl) f_Mod_101 (Or.inr ⟨fi_Mod_62, rfl⟩) ⟨by decide, rfl⟩ rfl (fun _ => rfl) (fun _ => rfl) ?_
  have F62 := fR (b := 102) (j := 62) (v := .ref (Δ.ba + 133)) F61 (by decide)
  refine g_aload_n (pc := 266) (dd d_Mod_init_2 6 rfl) rfl ?_
  refine g_bipush (pc := 267) (v := 96) (dd d_Mod_init_2 7 rfl) (by decide) ?_
  refine g_newa (pc := 269) (N := 96) (t := 0) (dd d_Mod_init_2 8 rfl) rfl ac_int rfl rfl (by decide) (by decide) (by decide) (F62 _ (by decide)) (by omega) (by rw [hR]; decide) (by rw [hR]; decide) (Or.inl rfl) ?_
  have F63 := fS F62
  refine g_putR (pc := 271) (j := 64) (dd d_Mod_init_2 9 rfl) f_Mod_104 (Or.inr ⟨fi_Mod_64, rfl⟩) ⟨by decide, rfl⟩ rfl (fun _ => rfl) (fun _ => rfl) ?_
  have F64 := fR (b := 102) (j := 64) (v := .ref (Δ.ba + 134)) F63 (by decide)
  refine g_aload_n (pc := 274) (dd d_Mod_init_2 10 rfl) rfl ?_
  refine g_bipush (pc := 275) (v := 88) (dd d_Mod_init_2 11 rfl) (by decide) ?_
  refine g_newa (pc := 277) (N := 88) (t := 0) (dd d_Mod_init_2 12 rfl) rfl ac_int rfl rfl (by decide) (by decide) (by decide) (F64 _ (by decide)) (by omega) (by rw [hR]; decide) (by rw [hR]; decide) (Or.inl rfl) ?_
  have F65 := fS F64
  refine g_putR (pc := 279) (j := 65) (dd d_Mod_init_2 13 rfl) f_Mod_107 (Or.inr ⟨fi_Mod_65, rfl⟩) ⟨by decide, rfl⟩ rfl (fun _ => rfl) (fun _ => rfl) ?_
  have F66 := fR (b := 102) (j := 65) (v := .ref (Δ.ba + 135)) F65 (by decide)
  refine g_aload_n (pc := 282) (dd d_Mod_init_2 14 rfl) rfl ?_
  refine g_iconst (pc := 283) (v := (-1)) (dd d_Mod_init_2 15 rfl) (by decide) ?_
  refine g_putI (pc := 284) (j := 66) (dd d_Mod_init_2 16 rfl) f_Mod_110 (Or.inl fm_Mod_66) ⟨by decide, rfl⟩ rfl ?_
  have F67 := fI (b := 102) (j := 66) (v := (-1)) F66 (by decide)
  refine g_aload_n (pc := 287) (dd d_Mod_init_2 17 rfl) rfl ?_
  refine g_iconst (pc := 288) (v := (-1)) (dd d_Mod_init_2 18 rfl) (by decide) ?_
  refine g_putI (pc := 289) (j := 68) (dd d_Mod_init_2 19 rfl) f_Mod_114 (Or.inl fm_Mod_68) ⟨by decide, rfl⟩ rfl ?_
  have F68 := fI (b := 102) (j := 68) (v := (-1)) F67 (by decide)
  refine g_aload_n (pc := 292) (dd d_Mod_init_2 20 rfl) rfl ?_
  refine g_bipush (pc := 293) (v := 15) (dd d_Mod_init_2 21 rfl) (by decide) ?_
  refine g_newa (pc := 295) (N := 15) (t := 0) (dd d_Mod_init_2 22 rfl) rfl ac_int rfl rfl (by decide) (by decide) (by decide) (F68 _ (by decide)) (by omega) (by rw [hR]; decide) (by rw [hR]; decide) (Or.inl rfl) ?_
  have F69 := fS F68
  refine g_putR (pc := 297) (j := 70) (dd d_Mod_init_2 23 rfl) f_Mod_117 (Or.inr ⟨fi_Mod_70, rfl⟩) ⟨by decide, rfl⟩ rfl (fun _ => rfl) (fun _ => rfl) ?_
  have F70 := fR (b := 102) (j := 70) (v := .ref (Δ.ba + 136)) F69 (by decide)
  refine g_aload_n (pc := 300) (dd d_Mod_init_2 24 rfl) rfl ?_
  refine g_bipush (pc := 301) (v := 15) (dd d_Mod_init_2 25 rfl) (by decide) ?_
  refine g_newa (pc := 303) (N := 15) (t := 0) (dd d_Mod_init_2 26 rfl) rfl ac_int rfl rfl (by decide) (by decide) (by decide) (F70 _ (by decide)) (by omega) (by rw [hR]; decide) (by rw [hR]; decide) (Or.inl rfl) ?_
  have F71 := fS F70
  refine g_putR (pc := 305) (j := 72) (dd d_Mod_init_2 27 rfl) f_Mod_120 (Or.inr ⟨fi_Mod_72, rfl⟩) ⟨by decide, rfl⟩ rfl (fun _ => rfl) (fun _ => rfl) ?_
  have F72 := fR (b := 102) (j := 72) (v := .ref (Δ.ba + 137)) F71 (by decide)
  refine g_aload_n (pc := 308) (dd d_Mod_init_2 28 rfl) rfl ?_
  refine g_bipush (pc := 309) (v := 16) (dd d_Mod_init_2 29 rfl) (by decide) ?_
  refine g_newa (pc := 311) (N := 16) (t := 0) (dd d_Mod_init_2 30 rfl) rfl ac_int rfl rfl (by decide) (by decide) (by decide) (F72 _ (by decide)) (by omega) (by rw [hR]; decide) (by rw [hR]; decide) (Or.inl rfl) ?_
  have F73 := fS F72
  refine g_putR (pc := 313) (j := 73) (dd d_Mod_init_2 31 rfl) f_Mod_123 (Or.inr ⟨fi_Mod_73, rfl⟩) ⟨by decide, rfl⟩ rfl (fun _ => rfl) (fun _ => rfl) ?_
  have F74 := fR (b := 102) (j := 73) (v := .ref (Δ.ba + 138)) F73 (by decide)
  refine g_aload_n (pc := 316) (dd d_Mod_init_2 32 rfl) rfl ?_
  refine g_sipush (pc := 317) (v := 996) (dd d_Mod_init_2 33 rfl) (by decide) ?_
  refine g_newa (pc := 320) (N := 996) (t := 0) (dd d_Mod_init_2 34 rfl) rfl ac_int rfl rfl (by decide) (by decide) (by decide) (F74 _ (by decide)) (by omega) (by rw [hR]; decide) (by rw [hR]; decide) (Or.inl rfl) ?_
  have F75 := fS F74
  refine g_putR (pc := 322) (j := 74) (dd d_Mod_init_2 35 rfl) f_Mod_126 (Or.inr ⟨fi_Mod_74, rfl⟩) ⟨by decide, rfl⟩ rfl (fun _ => rfl) (fun _ => rfl) ?_
  have F76 := fR (b := 102) (j := 74) (v := .ref (Δ.ba + 139)) F75 (by decide)
  refine g_aload_n (pc := 325) (dd d_Mod_init_2 36 rfl) rfl ?_
  refine g_sipush (pc := 326) (v := 1000) (dd d_Mod_init_2 37 rfl) (by decide) ?_
  refine g_newa (pc := 329) (N := 1000) (t := 0) (dd d_Mod_init_2 38 rfl) rfl ac_int rfl rfl (by decide) (by decide) (by decide) (F76 _ (by decide)) (by omega) (by rw [hR]; decide) (by rw [hR]; decide) (Or.inl rfl) ?_
  have F77 := fS F76
  refine g_putR (pc := 331) (j := 87) (dd d_Mod_init_2 39 rfl) f_Mod_129 (Or.inr ⟨fi_Mod_87, rfl⟩) ⟨by decide, rfl⟩ rfl (fun _ => rfl) (fun _ => rfl) ?_
  have F78 := fR (b := 102) (j := 87) (v := .ref (Δ.ba + 140)) F77 (by decide)
  change GG Δ m_Mod_init Γ 141 38 14954 (s_ModA Δ σ) 334 [some (.ref (Δ.ba + 102)), none] []
  have hw : (s_ModA Δ σ).2.2 MO 3 = .ref (Δ.ba + A_words) := rfl
  have hX := mx_ModB (Δ := Δ) hF
  unfold s_ModC at hT
  unfold s_ModB at hX hT
  generalize s_ModA Δ σ = τ at hX hT hw ⊢
  rw [show τ = stJs τ 104 [] from rfl]
  refine g_aload_n (pc := 334) (dd d_Mod_init_2 40 rfl) rfl ?_
  refine g_getr (pc := 335) (v := .ref (Δ.ba + A_words)) (dd d_Mod_init_2 41 rfl) f_Mod_13 ⟨by decide, rfl⟩ rfl ((congrFun (congrFun (stJs_R _ _ _) MO) 3).trans hw) ?_
  refine g_iconst (pc := 338) (v := 0) (dd d_Mod_init_2 42 rfl) (by decide) ?_
  refine g_ldc2 (pc := 339) (dd d_Mod_init_2 43 rfl) c_Mod_132 ?_
  refine g_lastJ (pc := 342) (k0 := 0) (dd d_Mod_init_2 44 rfl) ⟨by decide, rfl⟩ (by rw [vp_in_iff]; decide) rfl ?_
  refine g_aload_n (pc := 343) (dd d_Mod_init_2 45 rfl) rfl ?_
  refine g_getr (pc := 344) (v := .ref (Δ.ba + A_words)) (dd d_Mod_init_2 46 rfl) f_Mod_13 ⟨by decide, rfl⟩ rfl ((congrFun (congrFun (stJs_R _ _ _) MO) 3).trans hw) ?_
  refine g_iconst (pc := 347) (v := 1) (dd d_Mod_init_2 47 rfl) (by decide) ?_
  refine g_ldc2 (pc := 348) (dd d_Mod_init_2 48 rfl) c_Mod_134 ?_
  refine g_lastJ (pc := 351) (k0 := 1) (dd d_Mod_init_2 49 rfl) ⟨by decide, rfl⟩ (by rw [vp_in_iff]; decide) rfl ?_
  refine g_aload_n (pc := 352) (dd d_Mod_init_2 50 rfl) rfl ?_
  refine g_getr (pc := 353) (v := .ref (Δ.ba + A_words)) (dd d_Mod_init_2 51 rfl) f_Mod_13 ⟨by decide, rfl⟩ rfl ((congrFun (congrFun (stJs_R _ _ _) MO) 3).trans hw) ?_
  refine g_iconst (pc := 356) (v := 2) (dd d_Mod_init_2 52 rfl) (by decide) ?_
  refine g_ldc2 (pc := 357) (dd d_Mod_init_2 53 rfl) c_Mod_136 ?_
  refine g_lastJ (pc := 360) (k0 := 2) (dd d_Mod_init_2 54 rfl) ⟨by decide, rfl⟩ (by rw [vp_in_iff]; decide) rfl ?_
  refine g_aload_n (pc := 361) (dd d_Mod_init_2 55 rfl) rfl ?_
  refine g_getr (pc := 362) (v := .ref (Δ.ba + A_words)) (dd d_Mod_init_2 56 rfl) f_Mod_13 ⟨by decide, rfl⟩ rfl ((congrFun (congrFun (stJs_R _ _ _) MO) 3).trans hw) ?_
  refine g_iconst (pc := 365) (v := 3) (dd d_Mod_init_2 57 rfl) (by decide) ?_
  refine g_ldc2 (pc := 366) (dd d_Mod_init_2 58 rfl) c_Mod_138 ?_
  refine g_lastJ (pc := 369) (k0 := 3) (dd d_Mod_init_2 59 rfl) ⟨by decide, rfl⟩ (by rw [vp_in_iff]; decide) rfl ?_
  refine g_aload_n (pc := 370) (dd d_Mod_init_3 0 rfl) rfl ?_
  refine g_getr (pc := 371) (v := .ref (Δ.ba + A_words)) (dd d_Mod_init_3 1 rfl) f_Mod_13 ⟨by decide, rfl⟩ rfl ((congrFun (congrFun (stJs_R _ _ _) MO) 3).trans hw) ?_
  refine g_iconst (pc := 374) (v := 4) (dd d_Mod_init_3 2 rfl) (by decide) ?_
  refine g_ldc2 (pc := 375) (dd d_Mod_init_3 3 rfl) c_Mod_140 ?_
  refine g_lastJ (pc := 378) (k0 := 4) (dd d_Mod_init_3 4 rfl) ⟨by decide, rfl⟩ (by rw [vp_in_iff]; decide) rfl ?_
  refine g_aload_n (pc := 379) (dd d_Mod_init_3 5 rfl) rfl ?_
  refine g_getr (pc := 380) (v := .ref (Δ.ba + A_words)) (dd d_Mod_init_3 6 rfl) f_Mod_13 ⟨by decide, rfl⟩ rfl ((congrFun (congrFun (stJs_R _ _ _) MO) 3).trans hw) ?_
  refine g_iconst (pc := 383) (v := 5) (dd d_Mod_init_3 7 rfl) (by decide) ?_
  refine g_ldc2 (pc := 384) (dd d_Mod_init_3 8 rfl) c_Mod_142 ?_
  refine g_lastJ (pc := 387) (k0 := 5) (dd d_Mod_init_3 9 rfl) ⟨by decide, rfl⟩ (by rw [vp_in_iff]; decide) rfl ?_
  refine g_aload_n (pc := 388) (dd d_Mod_init_3 10 rfl) rfl ?_
  refine g_getr (pc := 389) (v := .ref (Δ.ba + A_words)) (dd d_Mod_init_3 11 rfl) f_Mod_13 ⟨by decide, rfl⟩ rfl ((congrFun (congrFun (stJs_R _ _ _) MO) 3).trans hw) ?_
  refine g_bipush (pc := 392) (v := 6) (dd d_Mod_init_3 12 rfl) (by decide) ?_
  refine g_ldc2 (pc := 394) (dd d_Mod_init_3 13 rfl) c_Mod_144 ?_
  refine g_lastJ (pc := 397) (k0 := 6) (dd d_Mod_init_3 14 rfl) ⟨by decide, rfl⟩ (by rw [vp_in_iff]; decide) rfl ?_
  refine g_aload_n (pc := 398) (dd d_Mod_init_3 15 rfl) rfl ?_
  refine g_getr (pc := 399) (v := .ref (Δ.ba + A_words)) (dd d_Mod_init_3 16 rfl) f_Mod_13 ⟨by decide, rfl⟩ rfl ((congrFun (congrFun (stJs_R _ _ _) MO) 3).trans hw) ?_
  refine g_bipush (pc := 402) (v := 7) (dd d_Mod_init_3 17 rfl) (by decide) ?_
  refine g_ldc2 (pc := 404) (dd d_Mod_init_3 18 rfl) c_Mod_146 ?_
  refine g_lastJ (pc := 407) (k0 := 7) (dd d_Mod_init_3 19 rfl) ⟨by decide, rfl⟩ (by rw [vp_in_iff]; decide) rfl ?_
  refine g_aload_n (pc := 408) (dd d_Mod_init_3 20 rfl) rfl ?_
  refine g_getr (pc := 409) (v := .ref (Δ.ba + A_words)) (dd d_Mod_init_3 21 rfl) f_Mod_13 ⟨by decide, rfl⟩ rfl ((congrFun (congrFun (stJs_R _ _ _) MO) 3).trans hw) ?_
  refine g_bipush (pc := 412) (v := 8) (dd d_Mod_init_3 22 rfl) (by decide) ?_
  refine g_ldc2 (pc := 414) (dd d_Mod_init_3 23 rfl) c_Mod_148 ?_
  refine g_lastJ (pc := 417) (k0 := 8) (dd d_Mod_init_3 24 rfl) ⟨by decide, rfl⟩ (by rw [vp_in_iff]; decide) rfl ?_
  refine g_aload_n (pc := 418) (dd d_Mod_init_3 25 rfl) rfl ?_
  refine g_getr (pc := 419) (v := .ref (Δ.ba + A_words)) (dd d_Mod_init_3 26 rfl) f_Mod_13 ⟨by decide, rfl⟩ rfl ((congrFun (congrFun (stJs_R _ _ _) MO) 3).trans hw) ?_
  refine g_bipush (pc := 422) (v := 9) (dd d_Mod_init_3 27 rfl) (by decide) ?_
  refine g_ldc2 (pc := 424) (dd d_Mod_init_3 28 rfl) c_Mod_150 ?_
  refine g_lastJ (pc := 427) (k0 := 9) (dd d_Mod_init_3 29 rfl) ⟨by decide, rfl⟩ (by rw [vp_in_iff]; decide) rfl ?_
  refine g_aload_n (pc := 428) (dd d_Mod_init_3 30 rfl) rfl ?_
  refine g_getr (pc := 429) (v := .ref (Δ.ba + A_words)) (dd d_Mod_init_3 31 rfl) f_Mod_13 ⟨by decide, rfl⟩ rfl ((congrFun (congrFun (stJs_R _ _ _) MO) 3).trans hw) ?_
  refine g_bipush (pc := 432) (v := 10) (dd d_Mod_init_3 32 rfl) (by decide) ?_
  refine g_ldc2 (pc := 434) (dd d_Mod_init_3 33 rfl) c_Mod_152 ?_
  refine g_lastJ (pc := 437) (k0 := 10) (dd d_Mod_init_3 34 rfl) ⟨by decide, rfl⟩ (by rw [vp_in_iff]; decide) rfl ?_
  refine g_aload_n (pc := 438) (dd d_Mod_init_3 35 rfl) rfl ?_
  refine g_getr (pc := 439) (v := .ref (Δ.ba + A_words)) (dd d_Mod_init_3 36 rfl) f_Mod_13 ⟨by decide, rfl⟩ rfl ((congrFun (congrFun (stJs_R _ _ _) MO) 3).trans hw) ?_
  refine g_bipush (pc := 442) (v := 11) (dd d_Mod_init_3 37 rfl) (by decide) ?_
  refine g_ldc2 (pc := 444) (dd d_Mod_init_3 38 rfl) c_Mod_154 ?_
  refine g_lastJ (pc := 447) (k0 := 11) (dd d_Mod_init_3 39 rfl) ⟨by decide, rfl⟩ (by rw [vp_in_iff]; decide) rfl ?_
  refine g_aload_n (pc := 448) (dd d_Mod_init_3 40 rfl) rfl ?_
  refine g_getr (pc := 449) (v := .ref (Δ.ba + A_words)) (dd d_Mod_init_3 41 rfl) f_Mod_13 ⟨by decide, rfl⟩ rfl ((congrFun (congrFun (stJs_R _ _ _) MO) 3).trans hw) ?_
  refine g_bipush (pc := 452) (v := 12) (dd d_Mod_init_3 42 rfl) (by decide) ?_
  refine g_ldc2 (pc := 454) (dd d_Mod_init_3 43 rfl) c_Mod_156 ?_
  refine g_lastJ (pc := 457) (k0 := 12) (dd d_Mod_init_3 44 rfl) ⟨by decide, rfl⟩ (by rw [vp_in_iff]; decide) rfl ?_
  refine g_aload_n (pc := 458) (dd d_Mod_init_3 45 rfl) rfl ?_
  refine g_getr (pc := 459) (v := .ref (Δ.ba + A_words)) (dd d_Mod_init_3 46 rfl) f_Mod_13 ⟨by decide, rfl⟩ rfl ((congrFun (congrFun (stJs_R _ _ _) MO) 3).trans hw) ?_
  refine g_bipush (pc := 462) (v := 13) (dd d_Mod_init_3 47 rfl) (by decide) ?_
  refine g_ldc2 (pc := 464) (dd d_Mod_init_3 48 rfl) c_Mod_158 ?_
  refine g_lastJ (pc := 467) (k0 := 13) (dd d_Mod_init_3 49 rfl) ⟨by decide, rfl⟩ (by rw [vp_in_iff]; decide) rfl ?_
  refine g_aload_n (pc := 468) (dd d_Mod_init_3 50 rfl) rfl ?_
  refine g_getr (pc := 469) (v := .ref (Δ.ba + A_words)) (dd d_Mod_init_3 51 rfl) f_Mod_13 ⟨by decide, rfl⟩ rfl ((congrFun (congrFun (stJs_R _ _ _) MO) 3).trans hw) ?_
  refine g_bipush (pc := 472) (v := 14) (dd d_Mod_init_3 52 rfl) (by decide) ?_
  refine g_ldc2 (pc := 474) (dd d_Mod_init_3 53 rfl) c_Mod_160 ?_
  refine g_lastJ (pc := 477) (k0 := 14) (dd d_Mod_init_3 54 rfl) ⟨by decide, rfl⟩ (by rw [vp_in_iff]; decide) rfl ?_
  refine g_aload_n (pc := 478) (dd d_Mod_init_3 55 rfl) rfl ?_
  refine g_getr (pc := 479) (v := .ref (Δ.ba + A_words)) (dd d_Mod_init_3 56 rfl) f_Mod_13 ⟨by decide, rfl⟩ rfl ((congrFun (congrFun (stJs_R _ _ _) MO) 3).trans hw) ?_
  refine g_bipush (pc := 482) (v := 15) (dd d_Mod_init_3 57 rfl) (by decide) ?_
  refine g_ldc2 (pc := 484) (dd d_Mod_init_3 58 rfl) c_Mod_162 ?_
  refine g_lastJ (pc := 487) (k0 := 15) (dd d_Mod_init_3 59 rfl) ⟨by decide, rfl⟩ (by rw [vp_in_iff]; decide) rfl ?_
  refine g_aload_n (pc := 488) (dd d_Mod_init_4 0 rfl) rfl ?_
  refine g_getr (pc := 489) (v := .ref (Δ.ba + A_words)) (dd d_Mod_init_4 1 rfl) f_Mod_13 ⟨by decide, rfl⟩ rfl ((congrFun (congrFun (stJs_R _ _ _) MO) 3).trans hw) ?_
  refine g_bipush (pc := 492) (v := 16) (dd d_Mod_init_4 2 rfl) (by decide) ?_
  refine g_ldc2 (pc := 494) (dd d_Mod_init_4 3 rfl) c_Mod_164 ?_
  refine g_lastJ (pc := 497) (k0 := 16) (dd d_Mod_init_4 4 rfl) ⟨by decide, rfl⟩ (by rw [vp_in_iff]; decide) rfl ?_
  refine g_aload_n (pc := 498) (dd d_Mod_init_4 5 rfl) rfl ?_
  refine g_getr (pc := 499) (v := .ref (Δ.ba + A_words)) (dd d_Mod_init_4 6 rfl) f_Mod_13 ⟨by decide, rfl⟩ rfl ((congrFun (congrFun (stJs_R _ _ _) MO) 3).trans hw) ?_
  refine g_bipush (pc := 502) (v := 17) (dd d_Mod_init_4 7 rfl) (by decide) ?_
  refine g_ldc2 (pc := 504) (dd d_Mod_init_4 8 rfl) c_Mod_166 ?_
  refine g_lastJ (pc := 507) (k0 := 17) (dd d_Mod_init_4 9 rfl) ⟨by decide, rfl⟩ (by rw [vp_in_iff]; decide) rfl ?_
  refine g_aload_n (pc := 508) (dd d_Mod_init_4 10 rfl) rfl ?_
  refine g_getr (pc := 509) (v := .ref (Δ.ba + A_words)) (dd d_Mod_init_4 11 rfl) f_Mod_13 ⟨by decide, rfl⟩ rfl ((congrFun (congrFun (stJs_R _ _ _) MO) 3).trans hw) ?_
  refine g_bipush (pc := 512) (v := 18) (dd d_Mod_init_4 12 rfl) (by decide) ?_
  refine g_ldc2 (pc := 514) (dd d_Mod_init_4 13 rfl) c_Mod_168 ?_
  refine g_lastJ (pc := 517) (k0 := 18) (dd d_Mod_init_4 14 rfl) ⟨by decide, rfl⟩ (by rw [vp_in_iff]; decide) rfl ?_
  refine g_aload_n (pc := 518) (dd d_Mod_init_4 15 rfl) rfl ?_
  refine g_getr (pc := 519) (v := .ref (Δ.ba + A_words)) (dd d_Mod_init_4 16 rfl) f_Mod_13 ⟨by decide, rfl⟩ rfl ((congrFun (congrFun (stJs_R _ _ _) MO) 3).trans hw) ?_
  refine g_bipush (pc := 522) (v := 19) (dd d_Mod_init_4 17 rfl) (by decide) ?_
  refine g_ldc2 (pc := 524) (dd d_Mod_init_4 18 rfl) c_Mod_170 ?_
  refine g_lastJ (pc := 527) (k0 := 19) (dd d_Mod_init_4 19 rfl) ⟨by decide, rfl⟩ (by rw [vp_in_iff]; decide) rfl ?_
  refine g_aload_n (pc := 528) (dd d_Mod_init_4 20 rfl) rfl ?_
  refine g_getr (pc := 529) (v := .ref (Δ.ba + A_words)) (dd d_Mod_init_4 21 rfl) f_Mod_13 ⟨by decide, rfl⟩ rfl ((congrFun (congrFun (stJs_R _ _ _) MO) 3).trans hw) ?_
  refine g_bipush (pc := 532) (v := 20) (dd d_Mod_init_4 22 rfl) (by decide) ?_
  refine g_ldc2 (pc := 534) (dd d_Mod_init_4 23 rfl) c_Mod_172 ?_
  refine g_lastJ (pc := 537) (k0 := 20) (dd d_Mod_init_4 24 rfl) ⟨by decide, rfl⟩ (by rw [vp_in_iff]; decide) rfl ?_
  refine g_aload_n (pc := 538) (dd d_Mod_init_4 25 rfl) rfl ?_
  refine g_getr (pc := 539) (v := .ref (Δ.ba + A_words)) (dd d_Mod_init_4 26 rfl) f_Mod_13 ⟨by decide, rfl⟩ rfl ((congrFun (congrFun (stJs_R _ _ _) MO) 3).trans hw) ?_
  refine g_bipush (pc := 542) (v := 21) (dd d_Mod_init_4 27 rfl) (by decide) ?_
  refine g_ldc2 (pc := 544) (dd d_Mod_init_4 28 rfl) c_Mod_174 ?_
  refine g_lastJ (pc := 547) (k0 := 21) (dd d_Mod_init_4 29 rfl) ⟨by decide, rfl⟩ (by rw [vp_in_iff]; decide) rfl ?_
  refine g_aload_n (pc := 548) (dd d_Mod_init_4 30 rfl) rfl ?_
  refine g_getr (pc := 549) (v := .ref (Δ.ba + A_words)) (dd d_Mod_init_4 31 rfl) f_Mod_13 ⟨by decide, rfl⟩ rfl ((congrFun (congrFun (stJs_R _ _ _) MO) 3).trans hw) ?_
  refine g_bipush (pc := 552) (v := 30) (dd d_Mod_init_4 32 rfl) (by decide) ?_
  refine g_ldc2 (pc := 554) (dd d_Mod_init_4 33 rfl) c_Mod_176 ?_
  refine g_lastJ (pc := 557) (k0 := 30) (dd d_Mod_init_4 34 rfl) ⟨by decide, rfl⟩ (by rw [vp_in_iff]; decide) rfl ?_
  refine g_aload_n (pc := 558) (dd d_Mod_init_4 35 rfl) rfl ?_
  refine g_getr (pc := 559) (v := .ref (Δ.ba + A_words)) (dd d_Mod_init_4 36 rfl) f_Mod_13 ⟨by decide, rfl⟩ rfl ((congrFun (congrFun (stJs_R _ _ _) MO) 3).trans hw) ?_
  refine g_bipush (pc := 562) (v := 31) (dd d_Mod_init_4 37 rfl) (by decide) ?_
  refine g_lconst (pc := 564) (v := 1) (dd d_Mod_init_4 38 rfl) (by decide) ?_
  refine g_lastJ (pc := 565) (k0 := 31) (dd d_Mod_init_4 39 rfl) ⟨by decide, rfl⟩ (by rw [vp_in_iff]; decide) rfl ?_
  refine g_aload_n (pc := 566) (dd d_Mod_init_4 40 rfl) rfl ?_
  refine g_getr (pc := 567) (v := .ref (Δ.ba + A_words)) (dd d_Mod_init_4 41 rfl) f_Mod_13 ⟨by decide, rfl⟩ rfl ((congrFun (congrFun (stJs_R _ _ _) MO) 3).trans hw) ?_
  refine g_bipush (pc := 570) (v := 32) (dd d_Mod_init_4 42 rfl) (by decide) ?_
  refine g_ldc2 (pc := 572) (dd d_Mod_init_4 43 rfl) c_Mod_178 ?_
  refine g_lastJ (pc := 575) (k0 := 32) (dd d_Mod_init_4 44 rfl) ⟨by decide, rfl⟩ (by rw [vp_in_iff]; decide) rfl ?_
  refine g_aload_n (pc := 576) (dd d_Mod_init_4 45 rfl) rfl ?_
  refine g_getr (pc := 577) (v := .ref (Δ.ba + A_words)) (dd d_Mod_init_4 46 rfl) f_Mod_13 ⟨by decide, rfl⟩ rfl ((congrFun (congrFun (stJs_R _ _ _) MO) 3).trans hw) ?_
  refine g_bipush (pc := 580) (v := 33) (dd d_Mod_init_4 47 rfl) (by decide) ?_
  refine g_ldc2 (pc := 582) (dd d_Mod_init_4 48 rfl) c_Mod_180 ?_
  refine g_lastJ (pc := 585) (k0 := 33) (dd d_Mod_init_4 49 rfl) ⟨by decide, rfl⟩ (by rw [vp_in_iff]; decide) rfl ?_
  refine g_aload_n (pc := 586) (dd d_Mod_init_4 50 rfl) rfl ?_
  refine g_getr (pc := 587) (v := .ref (Δ.ba + A_words)) (dd d_Mod_init_4 51 rfl) f_Mod_13 ⟨by decide, rfl⟩ rfl ((congrFun (congrFun (stJs_R _ _ _) MO) 3).trans hw) ?_
  refine g_bipush (pc := 590) (v := 34) (dd d_Mod_init_4 52 rfl) (by decide) ?_
  refine g_ldc2 (pc := 592) (dd d_Mod_init_4 53 rfl) c_Mod_182 ?_
  refine g_lastJ (pc := 595) (k0 := 34) (dd d_Mod_init_4 54 rfl) ⟨by decide, rfl⟩ (by rw [vp_in_iff]; decide) rfl ?_
  refine g_aload_n (pc := 596) (dd d_Mod_init_4 55 rfl) rfl ?_
  refine g_getr (pc := 597) (v := .ref (Δ.ba + A_words)) (dd d_Mod_init_4 56 rfl) f_Mod_13 ⟨by decide, rfl⟩ rfl ((congrFun (congrFun (stJs_R _ _ _) MO) 3).trans hw) ?_
  refine g_bipush (pc := 600) (v := 35) (dd d_Mod_init_4 57 rfl) (by decide) ?_
  refine g_ldc2 (pc := 602) (dd d_Mod_init_4 58 rfl) c_Mod_184 ?_
  refine g_lastJ (pc := 605) (k0 := 35) (dd d_Mod_init_4 59 rfl) ⟨by decide, rfl⟩ (by rw [vp_in_iff]; decide) rfl ?_
  refine g_aload_n (pc := 606) (dd d_Mod_init_5 0 rfl) rfl ?_
  refine g_getr (pc := 607) (v := .ref (Δ.ba + A_words)) (dd d_Mod_init_5 1 rfl) f_Mod_13 ⟨by decide, rfl⟩ rfl ((congrFun (congrFun (stJs_R _ _ _) MO) 3).trans hw) ?_
  refine g_bipush (pc := 610) (v := 36) (dd d_Mod_init_5 2 rfl) (by decide) ?_
  refine g_ldc2 (pc := 612) (dd d_Mod_init_5 3 rfl) c_Mod_186 ?_
  refine g_lastJ (pc := 615) (k0 := 36) (dd d_Mod_init_5 4 rfl) ⟨by decide, rfl⟩ (by rw [vp_in_iff]; decide) rfl ?_
  refine g_aload_n (pc := 616) (dd d_Mod_init_5 5 rfl) rfl ?_
  refine g_getr (pc := 617) (v := .ref (Δ.ba + A_words)) (dd d_Mod_init_5 6 rfl) f_Mod_13 ⟨by decide, rfl⟩ rfl ((congrFun (congrFun (stJs_R _ _ _) MO) 3).trans hw) ?_
  refine g_bipush (pc := 620) (v := 37) (dd d_Mod_init_5 7 rfl) (by decide) ?_
  refine g_ldc2 (pc := 622) (dd d_Mod_init_5 8 rfl) c_Mod_188 ?_
  refine g_lastJ (pc := 625) (k0 := 37) (dd d_Mod_init_5 9 rfl) ⟨by decide, rfl⟩ (by rw [vp_in_iff]; decide) rfl ?_
  refine g_aload_n (pc := 626) (dd d_Mod_init_5 10 rfl) rfl ?_
  refine g_getr (pc := 627) (v := .ref (Δ.ba + A_words)) (dd d_Mod_init_5 11 rfl) f_Mod_13 ⟨by decide, rfl⟩ rfl ((congrFun (congrFun (stJs_R _ _ _) MO) 3).trans hw) ?_
  refine g_bipush (pc := 630) (v := 38) (dd d_Mod_init_5 12 rfl) (by decide) ?_
  refine g_ldc2 (pc := 632) (dd d_Mod_init_5 13 rfl) c_Mod_190 ?_
  refine g_lastJ (pc := 635) (k0 := 38) (dd d_Mod_init_5 14 rfl) ⟨by decide, rfl⟩ (by rw [vp_in_iff]; decide) rfl ?_
  refine g_aload_n (pc := 636) (dd d_Mod_init_5 15 rfl) rfl ?_
  refine g_getr (pc := 637) (v := .ref (Δ.ba + A_words)) (dd d_Mod_init_5 16 rfl) f_Mod_13 ⟨by decide, rfl⟩ rfl ((congrFun (congrFun (stJs_R _ _ _) MO) 3).trans hw) ?_
  refine g_bipush (pc := 640) (v := 39) (dd d_Mod_init_5 17 rfl) (by decide) ?_
  refine g_ldc2 (pc := 642) (dd d_Mod_init_5 18 rfl) c_Mod_192 ?_
  refine g_lastJ (pc := 645) (k0 := 39) (dd d_Mod_init_5 19 rfl) ⟨by decide, rfl⟩ (by rw [vp_in_iff]; decide) rfl ?_
  refine g_aload_n (pc := 646) (dd d_Mod_init_5 20 rfl) rfl ?_
  refine g_getr (pc := 647) (v := .ref (Δ.ba + A_words)) (dd d_Mod_init_5 21 rfl) f_Mod_13 ⟨by decide, rfl⟩ rfl ((congrFun (congrFun (stJs_R _ _ _) MO) 3).trans hw) ?_
  refine g_bipush (pc := 650) (v := 40) (dd d_Mod_init_5 22 rfl) (by decide) ?_
  refine g_ldc2 (pc := 652) (dd d_Mod_init_5 23 rfl) c_Mod_194 ?_
  refine g_lastJ (pc := 655) (k0 := 40) (dd d_Mod_init_5 24 rfl) ⟨by decide, rfl⟩ (by rw [vp_in_iff]; decide) rfl ?_
  refine g_aload_n (pc := 656) (dd d_Mod_init_5 25 rfl) rfl ?_
  refine g_getr (pc := 657) (v := .ref (Δ.ba + A_words)) (dd d_Mod_init_5 26 rfl) f_Mod_13 ⟨by decide, rfl⟩ rfl ((congrFun (congrFun (stJs_R _ _ _) MO) 3).trans hw) ?_
  refine g_bipush (pc := 660) (v := 41) (dd d_Mod_init_5 27 rfl) (by decide) ?_
  refine g_ldc2 (pc := 662) (dd d_Mod_init_5 28 rfl) c_Mod_196 ?_
  refine g_lastJ (pc := 665) (k0 := 41) (dd d_Mod_init_5 29 rfl) ⟨by decide, rfl⟩ (by rw [vp_in_iff]; decide) rfl ?_
  refine g_aload_n (pc := 666) (dd d_Mod_init_5 30 rfl) rfl ?_
  refine g_getr (pc := 667) (v := .ref (Δ.ba + A_words)) (dd d_Mod_init_5 31 rfl) f_Mod_13 ⟨by decide, rfl⟩ rfl ((congrFun (congrFun (stJs_R _ _ _) MO) 3).trans hw) ?_
  refine g_bipush (pc := 670) (v := 42) (dd d_Mod_init_5 32 rfl) (by decide) ?_
  refine g_ldc2 (pc := 672) (dd d_Mod_init_5 33 rfl) c_Mod_198 ?_
  refine g_lastJ (pc := 675) (k0 := 42) (dd d_Mod_init_5 34 rfl) ⟨by decide, rfl⟩ (by rw [vp_in_iff]; decide) rfl ?_
  refine g_aload_n (pc := 676) (dd d_Mod_init_5 35 rfl) rfl ?_
  refine g_getr (pc := 677) (v := .ref (Δ.ba + A_words)) (dd d_Mod_init_5 36 rfl) f_Mod_13 ⟨by decide, rfl⟩ rfl ((congrFun (congrFun (stJs_R _ _ _) MO) 3).trans hw) ?_
  refine g_bipush (pc := 680) (v := 43) (dd d_Mod_init_5 37 rfl) (by decide) ?_
  refine g_ldc2 (pc := 682) (dd d_Mod_init_5 38 rfl) c_Mod_200 ?_
  refine g_lastJ (pc := 685) (k0 := 43) (dd d_Mod_init_5 39 rfl) ⟨by decide, rfl⟩ (by rw [vp_in_iff]; decide) rfl ?_
  refine g_aload_n (pc := 686) (dd d_Mod_init_5 40 rfl) rfl ?_
  refine g_getr (pc := 687) (v := .ref (Δ.ba + A_words)) (dd d_Mod_init_5 41 rfl) f_Mod_13 ⟨by decide, rfl⟩ rfl ((congrFun (congrFun (stJs_R _ _ _) MO) 3).trans hw) ?_
  refine g_bipush (pc := 690) (v := 44) (dd d_Mod_init_5 42 rfl) (by decide) ?_
  refine g_ldc2 (pc := 692) (dd d_Mod_init_5 43 rfl) c_Mod_202 ?_
  refine g_lastJ (pc := 695) (k0 := 44) (dd d_Mod_init_5 44 rfl) ⟨by decide, rfl⟩ (by rw [vp_in_iff]; decide) rfl ?_
  refine g_aload_n (pc := 696) (dd d_Mod_init_5 45 rfl) rfl ?_
  refine g_getr (pc := 697) (v := .ref (Δ.ba + A_words)) (dd d_Mod_init_5 46 rfl) f_Mod_13 ⟨by decide, rfl⟩ rfl ((congrFun (congrFun (stJs_R _ _ _) MO) 3).trans hw) ?_
  refine g_bipush (pc := 700) (v := 50) (dd d_Mod_init_5 47 rfl) (by decide) ?_
  refine g_ldc2 (pc := 702) (dd d_Mod_init_5 48 rfl) c_Mod_204 ?_
  refine g_lastJ (pc := 705) (k0 := 50) (dd d_Mod_init_5 49 rfl) ⟨by decide, rfl⟩ (by rw [vp_in_iff]; decide) rfl ?_
  refine g_aload_n (pc := 706) (dd d_Mod_init_5 50 rfl) rfl ?_
  refine g_getr (pc := 707) (v := .ref (Δ.ba + A_words)) (dd d_Mod_init_5 51 rfl) f_Mod_13 ⟨by decide, rfl⟩ rfl ((congrFun (congrFun (stJs_R _ _ _) MO) 3).trans hw) ?_
  refine g_bipush (pc := 710) (v := 51) (dd d_Mod_init_5 52 rfl) (by decide) ?_
  refine g_ldc2 (pc := 712) (dd d_Mod_init_5 53 rfl) c_Mod_206 ?_
  refine g_lastJ (pc := 715) (k0 := 51) (dd d_Mod_init_5 54 rfl) ⟨by decide, rfl⟩ (by rw [vp_in_iff]; decide) rfl ?_
  refine g_aload_n (pc := 716) (dd d_Mod_init_5 55 rfl) rfl ?_
  refine g_getr (pc := 717) (v := .ref (Δ.ba + A_words)) (dd d_Mod_init_5 56 rfl) f_Mod_13 ⟨by decide, rfl⟩ rfl ((congrFun (congrFun (stJs_R _ _ _) MO) 3).trans hw) ?_
  refine g_bipush (pc := 720) (v := 52) (dd d_Mod_init_5 57 rfl) (by decide) ?_
  refine g_ldc2 (pc := 722) (dd d_Mod_init_5 58 rfl) c_Mod_208 ?_
  refine g_lastJ (pc := 725) (k0 := 52) (dd d_Mod_init_5 59 rfl) ⟨by decide, rfl⟩ (by rw [vp_in_iff]; decide) rfl ?_
  refine g_aload_n (pc := 726) (dd d_Mod_init_6 0 rfl) rfl ?_
  refine g_getr (pc := 727) (v := .ref (Δ.ba + A_words)) (dd d_Mod_init_6 1 rfl) f_Mod_13 ⟨by decide, rfl⟩ rfl ((congrFun (congrFun (stJs_R _ _ _) MO) 3).trans hw) ?_
  refine g_bipush (pc := 730) (v := 53) (dd d_Mod_init_6 2 rfl) (by decide) ?_
  refine g_ldc2 (pc := 732) (dd d_Mod_init_6 3 rfl) c_Mod_210 ?_
  refine g_lastJ (pc := 735) (k0 := 53) (dd d_Mod_init_6 4 rfl) ⟨by decide, rfl⟩ (by rw [vp_in_iff]; decide) rfl ?_
  refine g_aload_n (pc := 736) (dd d_Mod_init_6 5 rfl) rfl ?_
  refine g_getr (pc := 737) (v := .ref (Δ.ba + A_words)) (dd d_Mod_init_6 6 rfl) f_Mod_13 ⟨by decide, rfl⟩ rfl ((congrFun (congrFun (stJs_R _ _ _) MO) 3).trans hw) ?_
  refine g_bipush (pc := 740) (v := 60) (dd d_Mod_init_6 7 rfl) (by decide) ?_
  refine g_ldc2 (pc := 742) (dd d_Mod_init_6 8 rfl) c_Mod_212 ?_
  refine g_lastJ (pc := 745) (k0 := 60) (dd d_Mod_init_6 9 rfl) ⟨by decide, rfl⟩ (by rw [vp_in_iff]; decide) rfl ?_
  refine g_aload_n (pc := 746) (dd d_Mod_init_6 10 rfl) rfl ?_
  refine g_getr (pc := 747) (v := .ref (Δ.ba + A_words)) (dd d_Mod_init_6 11 rfl) f_Mod_13 ⟨by decide, rfl⟩ rfl ((congrFun (congrFun (stJs_R _ _ _) MO) 3).trans hw) ?_
  refine g_bipush (pc := 750) (v := 61) (dd d_Mod_init_6 12 rfl) (by decide) ?_
  refine g_ldc2 (pc := 752) (dd d_Mod_init_6 13 rfl) c_Mod_214 ?_
  refine g_lastJ (pc := 755) (k0 := 61) (dd d_Mod_init_6 14 rfl) ⟨by decide, rfl⟩ (by rw [vp_in_iff]; decide) rfl ?_
  refine g_aload_n (pc := 756) (dd d_Mod_init_6 15 rfl) rfl ?_
  refine g_getr (pc := 757) (v := .ref (Δ.ba + A_words)) (dd d_Mod_init_6 16 rfl) f_Mod_13 ⟨by decide, rfl⟩ rfl ((congrFun (congrFun (stJs_R _ _ _) MO) 3).trans hw) ?_
  refine g_bipush (pc := 760) (v := 62) (dd d_Mod_init_6 17 rfl) (by decide) ?_
  refine g_ldc2 (pc := 762) (dd d_Mod_init_6 18 rfl) c_Mod_216 ?_
  refine g_lastJ (pc := 765) (k0 := 62) (dd d_Mod_init_6 19 rfl) ⟨by decide, rfl⟩ (by rw [vp_in_iff]; decide) rfl ?_
  refine g_aload_n (pc := 766) (dd d_Mod_init_6 20 rfl) rfl ?_
  refine g_getr (pc := 767) (v := .ref (Δ.ba + A_words)) (dd d_Mod_init_6 21 rfl) f_Mod_13 ⟨by decide, rfl⟩ rfl ((congrFun (congrFun (stJs_R _ _ _) MO) 3).trans hw) ?_
  refine g_bipush (pc := 770) (v := 63) (dd d_Mod_init_6 22 rfl) (by decide) ?_
  refine g_ldc2 (pc := 772) (dd d_Mod_init_6 23 rfl) c_Mod_218 ?_
  refine g_lastJ (pc := 775) (k0 := 63) (dd d_Mod_init_6 24 rfl) ⟨by decide, rfl⟩ (by rw [vp_in_iff]; decide) rfl ?_
  refine g_aload_n (pc := 776) (dd d_Mod_init_6 25 rfl) rfl ?_
  refine g_getr (pc := 777) (v := .ref (Δ.ba + A_words)) (dd d_Mod_init_6 26 rfl) f_Mod_13 ⟨by decide, rfl⟩ rfl ((congrFun (congrFun (stJs_R _ _ _) MO) 3).trans hw) ?_
  refine g_bipush (pc := 780) (v := 64) (dd d_Mod_init_6 27 rfl) (by decide) ?_
  refine g_ldc2 (pc := 782) (dd d_Mod_init_6 28 rfl) c_Mod_220 ?_
  refine g_lastJ (pc := 785) (k0 := 64) (dd d_Mod_init_6 29 rfl) ⟨by decide, rfl⟩ (by rw [vp_in_iff]; decide) rfl ?_
  refine g_aload_n (pc := 786) (dd d_Mod_init_6 30 rfl) rfl ?_
  refine g_getr (pc := 787) (v := .ref (Δ.ba + A_words)) (dd d_Mod_init_6 31 rfl) f_Mod_13 ⟨by decide, rfl⟩ rfl ((congrFun (congrFun (stJs_R _ _ _) MO) 3).trans hw) ?_
  refine g_bipush (pc := 790) (v := 65) (dd d_Mod_init_6 32 rfl) (by decide) ?_
  refine g_ldc2 (pc := 792) (dd d_Mod_init_6 33 rfl) c_Mod_222 ?_
  refine g_lastJ (pc := 795) (k0 := 65) (dd d_Mod_init_6 34 rfl) ⟨by decide, rfl⟩ (by rw [vp_in_iff]; decide) rfl ?_
  refine g_aload_n (pc := 796) (dd d_Mod_init_6 35 rfl) rfl ?_
  refine g_getr (pc := 797) (v := .ref (Δ.ba + A_words)) (dd d_Mod_init_6 36 rfl) f_Mod_13 ⟨by decide, rfl⟩ rfl ((congrFun (congrFun (stJs_R _ _ _) MO) 3).trans hw) ?_
  refine g_bipush (pc := 800) (v := 66) (dd d_Mod_init_6 37 rfl) (by decide) ?_
  refine g_ldc2 (pc := 802) (dd d_Mod_init_6 38 rfl) c_Mod_224 ?_
  refine g_lastJ (pc := 805) (k0 := 66) (dd d_Mod_init_6 39 rfl) ⟨by decide, rfl⟩ (by rw [vp_in_iff]; decide) rfl ?_
  refine g_aload_n (pc := 806) (dd d_Mod_init_6 40 rfl) rfl ?_
  refine g_getr (pc := 807) (v := .ref (Δ.ba + A_words)) (dd d_Mod_init_6 41 rfl) f_Mod_13 ⟨by decide, rfl⟩ rfl ((congrFun (congrFun (stJs_R _ _ _) MO) 3).trans hw) ?_
  refine g_bipush (pc := 810) (v := 67) (dd d_Mod_init_6 42 rfl) (by decide) ?_
  refine g_ldc2 (pc := 812) (dd d_Mod_init_6 43 rfl) c_Mod_226 ?_
  refine g_lastJ (pc := 815) (k0 := 67) (dd d_Mod_init_6 44 rfl) ⟨by decide, rfl⟩ (by rw [vp_in_iff]; decide) rfl ?_
  refine g_aload_n (pc := 816) (dd d_Mod_init_6 45 rfl) rfl ?_
  refine g_getr (pc := 817) (v := .ref (Δ.ba + A_words)) (dd d_Mod_init_6 46 rfl) f_Mod_13 ⟨by decide, rfl⟩ rfl ((congrFun (congrFun (stJs_R _ _ _) MO) 3).trans hw) ?_
  refine g_bipush (pc := 820) (v := 68) (dd d_Mod_init_6 47 rfl) (by decide) ?_
  refine g_ldc2 (pc := 822) (dd d_Mod_init_6 48 rfl) c_Mod_228 ?_
  refine g_lastJ (pc := 825) (k0 := 68) (dd d_Mod_init_6 49 rfl) ⟨by decide, rfl⟩ (by rw [vp_in_iff]; decide) rfl ?_
  refine g_aload_n (pc := 826) (dd d_Mod_init_6 50 rfl) rfl ?_
  refine g_getr (pc := 827) (v := .ref (Δ.ba + A_words)) (dd d_Mod_init_6 51 rfl) f_Mod_13 ⟨by decide, rfl⟩ rfl ((congrFun (congrFun (stJs_R _ _ _) MO) 3).trans hw) ?_
  refine g_bipush (pc := 830) (v := 69) (dd d_Mod_init_6 52 rfl) (by decide) ?_
  refine g_ldc2 (pc := 832) (dd d_Mod_init_6 53 rfl) c_Mod_230 ?_
  refine g_lastJ (pc := 835) (k0 := 69) (dd d_Mod_init_6 54 rfl) ⟨by decide, rfl⟩ (by rw [vp_in_iff]; decide) rfl ?_
  change GG Δ m_Mod_init Γ 141 38 14954 (stJs τ 104 wlst) 836 [some (.ref (Δ.ba + 102)), none] []
  generalize stJs τ 104 wlst = ρ at hX hT ⊢
  refine g_iconst (pc := 836) (v := 0) (dd d_Mod_init_6 55 rfl) (by decide) ?_
  refine g_istore_n (pc := 837) (dd d_Mod_init_6 56 rfl) (by decide) ?_
  have K : GG Δ m_Mod_init Γ 141 38 14954 (fillI ρ A_ruleOf 0 (-1)) 838 [some (.ref (Δ.ba + 102)), some (.int (nI 0))] [] := by
    refine down 44 (P := fun k => GG Δ m_Mod_init Γ 141 38 14954 (fillI ρ A_ruleOf k (-1)) 838 [some (.ref (Δ.ba + 102)), some (.int (nI k))] []) ?_ ?_
    · refine g_iload_n (pc := 838) (dd d_Mod_init_6 57 rfl) rfl ?_
      refine g_bipush (pc := 839) (v := 44) (dd d_Mod_init_6 58 rfl) (by decide) ?_
      refine g_icmpge (pc := 841) (tgt := 857) (dd d_Mod_init_6 59 rfl) (by decide) (fun _ => ?_) (fun q => absurd (show (44 : Int32) ≤ nI 44 by decide) q)
      refine g_aload_n (pc := 857) (dd d_Mod_init_7 7 rfl) rfl ?_
      refine g_iconst (pc := 858) (v := 0) (dd d_Mod_init_7 8 rfl) (by decide) ?_
      refine g_callV (pc := 859) (dd d_Mod_init_7 9 rfl) v_Mod_232 ⟨by decide, rfl⟩ rfl (en_Mod_setUp (Nat.le_refl 141) (X := ρ.2) hX (fillI ρ A_ruleOf 44 (-1)).1 0) rfl (by rw [hk]; decide) (Nat.le_of_ble_eq_true rfl) (by rw [hR]; exact ⟨by decide, by decide⟩) rfl ?_
      refine g_aload_n (pc := 862) (dd d_Mod_init_7 10 rfl) rfl ?_
      refine g_iconst (pc := 863) (v := 0) (dd d_Mod_init_7 11 rfl) (by decide) ?_
      refine g_callV (pc := 864) (dd d_Mod_init_7 12 rfl) v_Mod_236 ⟨by decide, rfl⟩ rfl (en_Mod_moveAll (Nat.le_refl 141) (X := ρ.2) hX _ 0) rfl (by rw [hk]; decide) (Nat.le_of_ble_eq_true rfl) (by rw [hR]; exact ⟨by decide, by decide⟩) rfl ?_
      exact g_vret (pc := 867) rfl (dd d_Mod_init_7 13 rfl) hT
    · intro k hkn ih
      refine g_iload_n (pc := 838) (dd d_Mod_init_6 57 rfl) rfl ?_
      refine g_bipush (pc := 839) (v := 44) (dd d_Mod_init_6 58 rfl) (by decide) ?_
      refine g_icmpge (pc := 841) (tgt := 857) (dd d_Mod_init_6 59 rfl) (by decide) (fun q => absurd q (nI_ge hkn (by decide))) (fun _ => ?_)
      refine g_aload_n (pc := 844) (dd d_Mod_init_7 0 rfl) rfl ?_
      refine g_getr (pc := 845) (v := .ref (Δ.ba + A_ruleOf)) (dd d_Mod_init_7 1 rfl) f_Mod_44 ⟨by decide, rfl⟩ rfl (mr_ruleOf hX) ?_
      refine g_iload_n (pc := 848) (dd d_Mod_init_7 2 rfl) rfl ?_
      refine g_iconst (pc := 849) (v := (-1)) (dd d_Mod_init_7 3 rfl) (by decide) ?_
      refine g_iast (pc := 850) (a := A_ruleOf) (len := 44) (dd d_Mod_init_7 4 rfl) ⟨by decide, rfl⟩ (nI_in hkn (by decide)) ?_
      refine g_iincW (pc := 851) (w := 1) (dd d_Mod_init_7 5 rfl) rfl (by decide) (by decide) ?_
      refine g_goto (pc := 854) (tgt := 838) (dd d_Mod_init_7 6 rfl) (by decide) ?_
      rw [nI_clamp (by omega), fillI_s]
      rw [nI_succ] at ih
      exact ih
  rw [fillI_0] at K
  exact K
