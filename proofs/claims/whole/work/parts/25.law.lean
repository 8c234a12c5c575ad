/-! the law: a call of each kind, and its loop -/
theorem g_sld {Δ : Dx} {mi : MI} {Γ : Cx} {n k c : Nat} {σ : St} {pc : Nat} {lv : List (Option Value)} {rest : List Value} {b L : Nat} {xs : Nat → Int32} {i : Int32} (hX : va_X b L xs Γ.s Γ.s.heap) (hbl : b < Γ.s.heap.size) (hbA : b < Δ.ba) (hin : vp_in i L) (hdg : decode mi.2.1 pc = .ok (.iaload, 1)) (kk : GG Δ mi Γ n k c σ (pc + 1) lv (.int (xs i.toNatClampNeg) :: rest)) : GG Δ mi Γ n k c σ pc lv (.int i :: .ref b :: rest) := fun ok H locs ls hP hS hl => va_sld ok.1 ok.2.1 hX hbl (Nat.not_le.mpr hbA) hS hin hdg (kk ok H locs ls hP hS hl)
theorem g_slen {Δ : Dx} {mi : MI} {Γ : Cx} {n k c : Nat} {σ : St} {pc : Nat} {lv : List (Option Value)} {rest : List Value} {b L : Nat} {xs : Nat → Int32} (hX : va_X b L xs Γ.s Γ.s.heap) (hbl : b < Γ.s.heap.size) (hbA : b < Δ.ba) (hdg : decode mi.2.1 pc = .ok (.arraylength, 1)) (kk : GG Δ mi Γ n k c σ (pc + 1) lv (.int (Int32.ofNat L) :: rest)) : GG Δ mi Γ n k c σ pc lv (.ref b :: rest) := fun ok H locs ls hP hS hl => va_slen ok.1 ok.2.1 hX hbl (Nat.not_le.mpr hbA) hS hdg (kk ok H locs ls hP hS hl)
theorem si_in {t L j : Nat} (h : 5 * t + 5 ≤ L) (hL : L ≤ 2560) (hj : j < 5) : vp_in (nI (5 * t) + nI j) L := by
  have e : nI (5 * t) + nI j = nI (5 * t + j) := by unfold nI; exact (Int32.ofNat_add _ _).symm
  rw [e]
  exact nI_in (by omega) (by omega)
theorem cmp_self {x y : Int64} (h : x = y) : lg_cmp x y = 0 := by subst h; unfold lg_cmp; rw [if_neg (by simp [gt_iff_lt]), if_pos rfl]
/-- what a call of each kind must do: a call with an answer that may throw; one with none; one with an answer that never throws; one with none that never throws -/
def CA (Δ : Dx) (S : Nat → St → Prop) (mw : MI) (hs : List (Nat × Nat × Nat × Nat)) (mm : MI) (as : List Value) : Prop := ∀ t, t < 512 → ∀ σ, S t σ → ∃ (kx rb : Int32) (σ1 σ2 : St) (j1 j2 : Nat), j1 < 90 ∧ j2 < 90 ∧ EvX Δ 60 mw hs (.ref (Δ.ba + 0) :: (as ++ [.ref (Δ.ba + OUT)])) σ (some (.int kx)) σ1 8 400 ∧ Ev Δ j1 mm (.ref (Δ.ba + MO) :: as) σ1 (some (.int rb)) σ2 ∧ Ev Δ j2 m_Mod_thrown [.ref (Δ.ba + MO)] σ2 (some (.int kx)) σ2 ∧ (kx = 0 → σ2.2.1 OUT 0 = rb.toInt64) ∧ S (t + 1) σ2
def CB (Δ : Dx) (S : Nat → St → Prop) (mw : MI) (hs : List (Nat × Nat × Nat × Nat)) (mm : MI) (as : List Value) : Prop := ∀ t, t < 512 → ∀ σ, S t σ → ∃ (kx : Int32) (σ1 σ2 : St) (j1 j2 : Nat), j1 < 90 ∧ j2 < 90 ∧ EvX Δ 60 mw hs (.ref (Δ.ba + 0) :: as) σ (some (.int kx)) σ1 8 400 ∧ Ev Δ j1 mm (.ref (Δ.ba + MO) :: as) σ1 none σ2 ∧ Ev Δ j2 m_Mod_thrown [.ref (Δ.ba + MO)] σ2 (some (.int kx)) σ2 ∧ S (t + 1) σ2
def CC (Δ : Dx) (S : Nat → St → Prop) (me : MI) (mm : MI) : Prop := ∀ t, t < 512 → ∀ σ, S t σ → ∃ (r : Int32) (σ1 σ2 : St) (j1 j2 : Nat), j1 < 90 ∧ j2 < 90 ∧ Ev Δ j1 me [.ref (Δ.ba + 0)] σ (some (.int r)) σ1 ∧ Ev Δ j2 mm [.ref (Δ.ba + MO)] σ1 (some (.int r)) σ2 ∧ S (t + 1) σ2
def CD (Δ : Dx) (S : Nat → St → Prop) (me : MI) (mm : MI) (as : List Value) : Prop := ∀ t, t < 512 → ∀ σ, S t σ → ∃ (σ1 σ2 : St) (j1 j2 : Nat), j1 < 90 ∧ j2 < 90 ∧ Ev Δ j1 me (.ref (Δ.ba + 0) :: as) σ none σ1 ∧ Ev Δ j2 mm (.ref (Δ.ba + MO) :: as) σ1 none σ2 ∧ S (t + 1) σ2
def Do_put (Δ : Dx) (S : Nat → St → Prop) : Prop := ∀ a0 : Int32, CA Δ S m_Law_put hs_put m_Mod_put [.int a0]
def Do_end (Δ : Dx) (S : Nat → St → Prop) : Prop := ∀ a0 : Int32, CB Δ S m_Law_end hs_end m_Mod_end [.int a0]
def Do_policy (Δ : Dx) (S : Nat → St → Prop) : Prop := CC Δ S m_Eng_policy m_Mod_policy
def Do_image (Δ : Dx) (S : Nat → St → Prop) : Prop := CC Δ S m_Eng_image m_Mod_image
/-- listing: the class may make rows of bytes -/
def CAE (Δ : Dx) (S : Nat → St → Prop) (mw : MI) (hs : List (Nat × Nat × Nat × Nat)) (mm : MI) (as : List Value) : Prop := ∀ t, t < 512 → ∀ σ, S t σ → ∃ (kx rb : Int32) (P : St → Prop), EvXE Δ 60 mw hs (.ref (Δ.ba + 0) :: (as ++ [.ref (Δ.ba + OUT)])) σ (fun _ => some (.int kx)) P 8 400 ∧ ∀ σ1, P σ1 → ∃ (σ2 : St) (j1 j2 : Nat), j1 < 90 ∧ j2 < 90 ∧ Ev Δ j1 mm (.ref (Δ.ba + MO) :: as) σ1 (some (.int rb)) σ2 ∧ Ev Δ j2 m_Mod_thrown [.ref (Δ.ba + MO)] σ2 (some (.int kx)) σ2 ∧ (kx = 0 → σ2.2.1 OUT 0 = rb.toInt64) ∧ S (t + 1) σ2
def Do_listing (Δ : Dx) (S : Nat → St → Prop) : Prop := ∀ a0 a1 : Int32, CAE Δ S m_Law_listing hs_listing m_Mod_listing [.int a0, .int a1]
def Do_codeOf (Δ : Dx) (S : Nat → St → Prop) : Prop := ∀ a0 a1 : Int32, CA Δ S m_Law_codeOf hs_codeOf m_Mod_codeOf [.int a0, .int a1]
def Do_begin (Δ : Dx) (S : Nat → St → Prop) : Prop := ∀ a0 : Int32, CD Δ S m_Eng_begin m_Mod_begin [.int a0]
def Do_code (Δ : Dx) (S : Nat → St → Prop) : Prop := ∀ a0 a1 a2 : Int32, CB Δ S m_Law_code hs_code m_Mod_code [.int a0, .int a1, .int a2]
def Do_word (Δ : Dx) (S : Nat → St → Prop) : Prop := ∀ a0 a1 a2 a3 : Int32, CB Δ S m_Law_word hs_word m_Mod_word [.int a0, .int a1, .int a2, .int a3]
def Do_register (Δ : Dx) (S : Nat → St → Prop) : Prop := ∀ a0 a1 a2 : Int32, CB Δ S m_Law_register hs_register m_Mod_register [.int a0, .int a1, .int a2]
def Do_input (Δ : Dx) (S : Nat → St → Prop) : Prop := ∀ a0 a1 : Int32, CA Δ S m_Law_input hs_input m_Mod_input [.int a0, .int a1]
def Do_run (Δ : Dx) (S : Nat → St → Prop) : Prop := ∀ a0 : Int32, CA Δ S m_Law_run hs_run m_Mod_run [.int a0]
def Do_state (Δ : Dx) (S : Nat → St → Prop) : Prop := ∀ a0 : Int32, CA Δ S m_Law_state hs_state m_Mod_state [.int a0]
def Do_registerOf (Δ : Dx) (S : Nat → St → Prop) : Prop := ∀ a0 a1 : Int32, CA Δ S m_Law_registerOf hs_registerOf m_Mod_registerOf [.int a0, .int a1]
def Do_wordOf (Δ : Dx) (S : Nat → St → Prop) : Prop := ∀ a0 a1 : Int32, CA Δ S m_Law_wordOf hs_wordOf m_Mod_wordOf [.int a0, .int a1]
def Do_output (Δ : Dx) (S : Nat → St → Prop) : Prop := ∀ a0 : Int32, CA Δ S m_Law_output hs_output m_Mod_output [.int a0]
def Do_pairOf (Δ : Dx) (S : Nat → St → Prop) : Prop := ∀ a0 a1 : Int32, CA Δ S m_Law_pairOf hs_pairOf m_Mod_pairOf [.int a0, .int a1]
def Do_names (Δ : Dx) (S : Nat → St → Prop) : Prop := ∀ a0 : Int32, CA Δ S m_Law_names hs_names m_Mod_names [.int a0]
def Do_blame (Δ : Dx) (S : Nat → St → Prop) : Prop := CC Δ S m_Eng_blame m_Mod_blame
def Do_journal (Δ : Dx) (S : Nat → St → Prop) : Prop := ∀ a0 a1 : Int32, CA Δ S m_Law_journal hs_journal m_Mod_journal [.int a0, .int a1]
def Do_count (Δ : Dx) (S : Nat → St → Prop) : Prop := ∀ a0 a1 : Int32, CA Δ S m_Law_count hs_count m_Mod_count [.int a0, .int a1]
def Do_cacheOf (Δ : Dx) (S : Nat → St → Prop) : Prop := ∀ a0 a1 : Int32, CA Δ S m_Law_cacheOf hs_cacheOf m_Mod_cacheOf [.int a0, .int a1]
def Do_keep (Δ : Dx) (S : Nat → St → Prop) : Prop := CD Δ S m_Eng_keep m_Mod_keep []
def Do_differ (Δ : Dx) (S : Nat → St → Prop) : Prop := ∀ a0 a1 : Int32, CA Δ S m_Law_differ hs_differ m_Mod_differ [.int a0, .int a1]
def Do_witness (Δ : Dx) (S : Nat → St → Prop) : Prop := ∀ a0 : Int32, CA Δ S m_Law_witness hs_witness m_Mod_witness [.int a0]
def Do_twin (Δ : Dx) (S : Nat → St → Prop) : Prop := CD Δ S m_Eng_twin m_Mod_twin []
def Do_swap (Δ : Dx) (S : Nat → St → Prop) : Prop := CD Δ S m_Eng_swap m_Mod_swap []
def Do_unlike (Δ : Dx) (S : Nat → St → Prop) : Prop := ∀ a0 : Int32, CA Δ S m_Law_unlike hs_unlike m_Mod_unlike [.int a0]
def DoAll (Δ : Dx) (S : Nat → St → Prop) : Prop := (∀ t σ, S t σ → S (t + 1) σ) ∧ Do_put Δ S ∧ Do_end Δ S ∧ Do_policy Δ S ∧ Do_image Δ S ∧ Do_listing Δ S ∧ Do_codeOf Δ S ∧ Do_begin Δ S ∧ Do_code Δ S ∧ Do_word Δ S ∧ Do_register Δ S ∧ Do_input Δ S ∧ Do_run Δ S ∧ Do_state Δ S ∧ Do_registerOf Δ S ∧ Do_wordOf Δ S ∧ Do_output Δ S ∧ Do_pairOf Δ S ∧ Do_names Δ S ∧ Do_blame Δ S ∧ Do_journal Δ S ∧ Do_count Δ S ∧ Do_cacheOf Δ S ∧ Do_keep Δ S ∧ Do_differ Δ S ∧ Do_witness Δ S ∧ Do_twin Δ S ∧ Do_swap Δ S ∧ Do_unlike Δ S
theorem x_Law_89 : CX "WardEngineLaw" 89 m_Law_put hs_put 3 := ⟨⟨by decide, by decide, by decide +kernel⟩, tk4 118 rfl rfl, tk4 119 rfl rfl, tk1 0 rfl rfl, tk4 120 rfl rfl, by decide⟩
theorem x_Law_99 : CX "WardEngineLaw" 99 m_Law_end hs_end 2 := ⟨⟨by decide, by decide, by decide +kernel⟩, tk4 220 rfl rfl, tk4 221 rfl rfl, tk1 0 rfl rfl, tk4 222 rfl rfl, by decide⟩
theorem x_Law_111 : CX "WardEngineLaw" 111 m_Law_listing hs_listing 4 := ⟨⟨by decide, by decide, by decide +kernel⟩, tk4 228 rfl rfl, tk4 229 rfl rfl, tk1 0 rfl rfl, tk4 230 rfl rfl, by decide⟩
theorem x_Law_115 : CX "WardEngineLaw" 115 m_Law_codeOf hs_codeOf 4 := ⟨⟨by decide, by decide, by decide +kernel⟩, tk6 53 rfl rfl, tk6 54 rfl rfl, tk1 0 rfl rfl, tk6 55 rfl rfl, by decide⟩
theorem x_Law_122 : CX "WardEngineLaw" 122 m_Law_code hs_code 4 := ⟨⟨by decide, by decide, by decide +kernel⟩, tk6 62 rfl rfl, tk6 63 rfl rfl, tk1 0 rfl rfl, tk6 64 rfl rfl, by decide⟩
theorem x_Law_126 : CX "WardEngineLaw" 126 m_Law_word hs_word 5 := ⟨⟨by decide, by decide, by decide +kernel⟩, tk6 70 rfl rfl, tk6 71 rfl rfl, tk1 0 rfl rfl, tk6 72 rfl rfl, by decide⟩
theorem x_Law_130 : CX "WardEngineLaw" 130 m_Law_register hs_register 4 := ⟨⟨by decide, by decide, by decide +kernel⟩, tk6 79 rfl rfl, tk6 80 rfl rfl, tk1 0 rfl rfl, tk6 81 rfl rfl, by decide⟩
theorem x_Law_133 : CX "WardEngineLaw" 133 m_Law_input hs_input 4 := ⟨⟨by decide, by decide, by decide +kernel⟩, tk6 88 rfl rfl, tk6 89 rfl rfl, tk1 0 rfl rfl, tk6 90 rfl rfl, by decide⟩
theorem x_Law_136 : CX "WardEngineLaw" 136 m_Law_run hs_run 3 := ⟨⟨by decide, by decide, by decide +kernel⟩, tk6 97 rfl rfl, tk6 98 rfl rfl, tk1 0 rfl rfl, tk6 99 rfl rfl, by decide⟩
theorem x_Law_139 : CX "WardEngineLaw" 139 m_Law_state hs_state 3 := ⟨⟨by decide, by decide, by decide +kernel⟩, tk7 42 rfl rfl, tk7 43 rfl rfl, tk1 0 rfl rfl, tk7 44 rfl rfl, by decide⟩
theorem x_Law_142 : CX "WardEngineLaw" 142 m_Law_registerOf hs_registerOf 4 := ⟨⟨by decide, by decide, by decide +kernel⟩, tk7 50 rfl rfl, tk7 51 rfl rfl, tk1 0 rfl rfl, tk7 52 rfl rfl, by decide⟩
theorem x_Law_145 : CX "WardEngineLaw" 145 m_Law_wordOf hs_wordOf 4 := ⟨⟨by decide, by decide, by decide +kernel⟩, tk7 57 rfl rfl, tk7 58 rfl rfl, tk1 0 rfl rfl, tk7 59 rfl rfl, by decide⟩
theorem x_Law_148 : CX "WardEngineLaw" 148 m_Law_output hs_output 3 := ⟨⟨by decide, by decide, by decide +kernel⟩, tk7 65 rfl rfl, tk7 66 rfl rfl, tk1 0 rfl rfl, tk7 67 rfl rfl, by decide⟩
theorem x_Law_151 : CX "WardEngineLaw" 151 m_Law_pairOf hs_pairOf 4 := ⟨⟨by decide, by decide, by decide +kernel⟩, tk7 78 rfl rfl, tk7 79 rfl rfl, tk1 0 rfl rfl, tk7 80 rfl rfl, by decide⟩
theorem x_Law_154 : CX "WardEngineLaw" 154 m_Law_names hs_names 3 := ⟨⟨by decide, by decide, by decide +kernel⟩, tk7 86 rfl rfl, tk7 87 rfl rfl, tk1 0 rfl rfl, tk7 88 rfl rfl, by decide⟩
theorem x_Law_161 : CX "WardEngineLaw" 161 m_Law_journal hs_journal 4 := ⟨⟨by decide, by decide, by decide +kernel⟩, tk7 94 rfl rfl, tk7 95 rfl rfl, tk1 0 rfl rfl, tk7 96 rfl rfl, by decide⟩
theorem x_Law_164 : CX "WardEngineLaw" 164 m_Law_count hs_count 4 := ⟨⟨by decide, by decide, by decide +kernel⟩, tk7 107 rfl rfl, tk7 108 rfl rfl, tk1 0 rfl rfl, tk7 109 rfl rfl, by decide⟩
theorem x_Law_167 : CX "WardEngineLaw" 167 m_Law_cacheOf hs_cacheOf 4 := ⟨⟨by decide, by decide, by decide +kernel⟩, tk7 115 rfl rfl, tk7 116 rfl rfl, tk1 0 rfl rfl, tk7 117 rfl rfl, by decide⟩
theorem x_Law_174 : CX "WardEngineLaw" 174 m_Law_differ hs_differ 4 := ⟨⟨by decide, by decide, by decide +kernel⟩, tk7 124 rfl rfl, tk7 125 rfl rfl, tk1 0 rfl rfl, tk7 126 rfl rfl, by decide⟩
theorem x_Law_177 : CX "WardEngineLaw" 177 m_Law_witness hs_witness 3 := ⟨⟨by decide, by decide, by decide +kernel⟩, tk7 164 rfl rfl, tk7 165 rfl rfl, tk1 0 rfl rfl, tk7 166 rfl rfl, by decide⟩
theorem x_Law_188 : CX "WardEngineLaw" 188 m_Law_unlike hs_unlike 3 := ⟨⟨by decide, by decide, by decide +kernel⟩, tk7 173 rfl rfl, tk7 174 rfl rfl, tk1 0 rfl rfl, tk7 175 rfl rfl, by decide⟩
/-- the law's frame: the script of L ints at the cell b, its room and its level -/
def LF (Δ : Dx) (Γ : Cx) (b L : Nat) (xs : Nat → Int32) : Prop := va_X b L xs Γ.s Γ.s.heap ∧ b < Γ.s.heap.size ∧ b < Δ.ba ∧ L ≤ 2560 ∧ Γ.R = room_1 ∧ Γ.k = 100
abbrev lvL (Δ : Dx) (b : Nat) (i : Int32) : List (Option Value) := [some (.ref b), some (.ref (Δ.ba + 0)), some (.ref (Δ.ba + MO)), some (.ref (Δ.ba + OUT)), some (.int i), none, none]
theorem lc_put {Δ : Dx} {Γ : Cx} {S : Nat → St → Prop} {b L t k c : Nat} {xs : Nat → Int32} {σ : St} (F : LF Δ Γ b L xs) (hD : Do_put Δ S) (hS : S t σ) (ht : 5 * t + 5 ≤ L) (hf : k + 8 ≤ room_1.cells ∧ c + 400 ≤ room_1.slots) (kk : ∀ σ2, S (t + 1) σ2 → GG Δ m_Law_law Γ NN (k + 8) (c + 400) σ2 1559 (lvL Δ b (nI (5 * t))) []) : GG Δ m_Law_law Γ NN k c σ 164 (lvL Δ b (nI (5 * t))) [] := by
  obtain ⟨hX, hbl, hbA, hL, hR, hk⟩ := F
  have rc : Γ.R.cells = room_1.cells := by rw [hR]
  have rs : Γ.R.slots = room_1.slots := by rw [hR]
  obtain ⟨kx, rb, σ1, σ2, j1, j2, l1, l2, E1, E2, E3, he, hS2⟩ := hD (xs (nI (5 * t) + 1).toNatClampNeg) t (by omega) σ hS
  refine g_aload_n (pc := 164) (dd d_Law_law 25 rfl) rfl ?_
  refine g_aload_n (pc := 165) (dd d_Law_law 26 rfl) rfl ?_
  refine g_iload (pc := 166) (dd d_Law_law 27 rfl) rfl ?_
  refine g_iconst (pc := 168) (v := 1) (dd d_Law_law 28 rfl) (by decide) ?_
  refine g_iadd (pc := 169) (dd d_Law_law 29 rfl) ?_
  refine g_sld (pc := 170) hX hbl hbA (si_in (j := 1) ht hL (by decide)) (dd d_Law_law 30 rfl) ?_
  refine g_aload_n (pc := 171) (dd d_Law_law 31 rfl) rfl ?_
  refine g_callX (pc := 172) (dd d_Law_law 32 rfl) x_Law_89 E1 rfl (by rw [hk]; decide) (Nat.le_of_ble_eq_true rfl) ⟨by rw [rc]; exact hf.1, by rw [rs]; exact hf.2⟩ rfl ?_
  refine g_istore (pc := 175) (dd d_Law_law 33 rfl) (by decide) ?_
  refine g_aload_n (pc := 177) (dd d_Law_law 34 rfl) rfl ?_
  refine g_aload_n (pc := 178) (dd d_Law_law 35 rfl) rfl ?_
  refine g_iload (pc := 179) (dd d_Law_law 36 rfl) rfl ?_
  refine g_iconst (pc := 181) (v := 1) (dd d_Law_law 37 rfl) (by decide) ?_
  refine g_iadd (pc := 182) (dd d_Law_law 38 rfl) ?_
  refine g_sld (pc := 183) hX hbl hbA (si_in (j := 1) ht hL (by decide)) (dd d_Law_law 39 rfl) ?_
  refine g_callV (pc := 184) (dd d_Law_law 40 rfl) v_Law_94 ob_MO rfl E2 rfl (by rw [hk]; omega) (Nat.le_of_ble_eq_true rfl) ⟨by rw [rc]; omega, by rw [rs]; omega⟩ rfl ?_
  refine g_istore (pc := 187) (dd d_Law_law 41 rfl) (by decide) ?_
  refine g_aload_n (pc := 189) (dd d_Law_law 42 rfl) rfl ?_
  refine g_callV (pc := 190) (dd d_Law_law 43 rfl) v_Law_95 ob_MO rfl E3 rfl (by rw [hk]; omega) (Nat.le_of_ble_eq_true rfl) ⟨by rw [rc]; omega, by rw [rs]; omega⟩ rfl ?_
  refine g_iload (pc := 193) (dd d_Law_law 44 rfl) rfl ?_
  refine g_icmpeq (pc := 195) (tgt := 200) (dd d_Law_law 45 rfl) (by decide) (fun _ => ?_) (fun q => absurd rfl q)
  refine g_iload (pc := 200) (dd d_Law_law 48 rfl) rfl ?_
  suffices K : GG Δ m_Law_law Γ NN (k + 8) (c + 400) σ2 217 (lvL Δ b (nI (5 * t))) [] by
    refine g_ifne (pc := 202) (tgt := 217) (dd d_Law_law 49 rfl) (by decide) (fun _ => ?_) (fun q => ?_)
    · exact g_drop [5, 6] K
    · skip
      refine g_aload_n (pc := 205) (dd d_Law_law 50 rfl) rfl ?_
      refine g_iconst (pc := 206) (v := 0) (dd d_Law_law 51 rfl) (by decide) ?_
      refine g_lald (pc := 207) (dd d_Law_law 52 rfl) ar_OUT (by rw [vp_in_iff]; decide) ?_
      refine g_iload (pc := 208) (dd d_Law_law 53 rfl) rfl ?_
      refine g_i2l (pc := 210) (dd d_Law_law 54 rfl) ?_
      refine g_lcmp (pc := 211) (dd d_Law_law 55 rfl) ?_
      refine g_ifeq (pc := 212) (tgt := 217) (dd d_Law_law 56 rfl) (by decide) (fun _ => ?_) (fun q2 => absurd (cmp_self (he q)) q2)
      exact g_drop [5, 6] K
  refine g_goto (pc := 217) (tgt := 1559) (dd d_Law_law 59 rfl) (by decide) ?_
  exact kk σ2 hS2
theorem lc_end {Δ : Dx} {Γ : Cx} {S : Nat → St → Prop} {b L t k c : Nat} {xs : Nat → Int32} {σ : St} (F : LF Δ Γ b L xs) (hD : Do_end Δ S) (hS : S t σ) (ht : 5 * t + 5 ≤ L) (hf : k + 8 ≤ room_1.cells ∧ c + 400 ≤ room_1.slots) (kk : ∀ σ2, S (t + 1) σ2 → GG Δ m_Law_law Γ NN (k + 8) (c + 400) σ2 1559 (lvL Δ b (nI (5 * t))) []) : GG Δ m_Law_law Γ NN k c σ 220 (lvL Δ b (nI (5 * t))) [] := by
  obtain ⟨hX, hbl, hbA, hL, hR, hk⟩ := F
  have rc : Γ.R.cells = room_1.cells := by rw [hR]
  have rs : Γ.R.slots = room_1.slots := by rw [hR]
  obtain ⟨kx, σ1, σ2, j1, j2, l1, l2, E1, E2, E3, hS2⟩ := hD (xs (nI (5 * t) + 1).toNatClampNeg) t (by omega) σ hS
  refine g_aload_n (pc := 220) (dd d_Law_law_1 0 rfl) rfl ?_
  refine g_aload_n (pc := 221) (dd d_Law_law_1 1 rfl) rfl ?_
  refine g_iload (pc := 222) (dd d_Law_law_1 2 rfl) rfl ?_
  refine g_iconst (pc := 224) (v := 1) (dd d_Law_law_1 3 rfl) (by decide) ?_
  refine g_iadd (pc := 225) (dd d_Law_law_1 4 rfl) ?_
  refine g_sld (pc := 226) hX hbl hbA (si_in (j := 1) ht hL (by decide)) (dd d_Law_law_1 5 rfl) ?_
  refine g_callX (pc := 227) (dd d_Law_law_1 6 rfl) x_Law_99 E1 rfl (by rw [hk]; decide) (Nat.le_of_ble_eq_true rfl) ⟨by rw [rc]; exact hf.1, by rw [rs]; exact hf.2⟩ rfl ?_
  refine g_istore (pc := 230) (dd d_Law_law_1 7 rfl) (by decide) ?_
  refine g_aload_n (pc := 232) (dd d_Law_law_1 8 rfl) rfl ?_
  refine g_aload_n (pc := 233) (dd d_Law_law_1 9 rfl) rfl ?_
  refine g_iload (pc := 234) (dd d_Law_law_1 10 rfl) rfl ?_
  refine g_iconst (pc := 236) (v := 1) (dd d_Law_law_1 11 rfl) (by decide) ?_
  refine g_iadd (pc := 237) (dd d_Law_law_1 12 rfl) ?_
  refine g_sld (pc := 238) hX hbl hbA (si_in (j := 1) ht hL (by decide)) (dd d_Law_law_1 13 rfl) ?_
  refine g_callV (pc := 239) (dd d_Law_law_1 14 rfl) v_Law_102 ob_MO rfl E2 rfl (by rw [hk]; omega) (Nat.le_of_ble_eq_true rfl) ⟨by rw [rc]; omega, by rw [rs]; omega⟩ rfl ?_
  refine g_aload_n (pc := 242) (dd d_Law_law_1 15 rfl) rfl ?_
  refine g_callV (pc := 243) (dd d_Law_law_1 16 rfl) v_Law_95 ob_MO rfl E3 rfl (by rw [hk]; omega) (Nat.le_of_ble_eq_true rfl) ⟨by rw [rc]; omega, by rw [rs]; omega⟩ rfl ?_
  refine g_iload (pc := 246) (dd d_Law_law_1 17 rfl) rfl ?_
  refine g_icmpeq (pc := 248) (tgt := 253) (dd d_Law_law_1 18 rfl) (by decide) (fun _ => ?_) (fun q => absurd rfl q)
  refine g_goto (pc := 253) (tgt := 1559) (dd d_Law_law_1 21 rfl) (by decide) ?_
  refine g_drop [5, 6] ?_
  exact kk σ2 hS2
theorem lc_policy {Δ : Dx} {Γ : Cx} {S : Nat → St → Prop} {b L t k c : Nat} {xs : Nat → Int32} {σ : St} (F : LF Δ Γ b L xs) (hD : Do_policy Δ S) (hS : S t σ) (ht : 5 * t + 5 ≤ L) (hf : k + 8 ≤ room_1.cells ∧ c + 400 ≤ room_1.slots) (kk : ∀ σ2, S (t + 1) σ2 → GG Δ m_Law_law Γ NN (k + 8) (c + 400) σ2 1559 (lvL Δ b (nI (5 * t))) []) : GG Δ m_Law_law Γ NN k c σ 256 (lvL Δ b (nI (5 * t))) [] := by
  obtain ⟨hX, hbl, hbA, hL, hR, hk⟩ := F
  have rc : Γ.R.cells = room_1.cells := by rw [hR]
  have rs : Γ.R.slots = room_1.slots := by rw [hR]
  obtain ⟨r, σ1, σ2, j1, j2, l1, l2, E1, E2, hS2⟩ := hD t (by omega) σ hS
  refine g_aload_n (pc := 256) (dd d_Law_law_1 22 rfl) rfl ?_
  refine g_callV (pc := 257) (dd d_Law_law_1 23 rfl) v_Law_103 ob_E rfl E1 rfl (by rw [hk]; omega) (Nat.le_of_ble_eq_true rfl) ⟨by rw [rc]; omega, by rw [rs]; omega⟩ rfl ?_
  refine g_aload_n (pc := 260) (dd d_Law_law_1 24 rfl) rfl ?_
  refine g_callV (pc := 261) (dd d_Law_law_1 25 rfl) v_Law_106 ob_MO rfl E2 rfl (by rw [hk]; omega) (Nat.le_of_ble_eq_true rfl) ⟨by rw [rc]; omega, by rw [rs]; omega⟩ rfl ?_
  refine g_icmpeq (pc := 264) (tgt := 1559) (dd d_Law_law_1 26 rfl) (by decide) (fun _ => ?_) (fun q => absurd rfl q)
  refine g_widen (k2 := k + 8) (c2 := c + 400) (by omega) (by omega) ?_
  exact kk σ2 hS2
theorem lc_image {Δ : Dx} {Γ : Cx} {S : Nat → St → Prop} {b L t k c : Nat} {xs : Nat → Int32} {σ : St} (F : LF Δ Γ b L xs) (hD : Do_image Δ S) (hS : S t σ) (ht : 5 * t + 5 ≤ L) (hf : k + 8 ≤ room_1.cells ∧ c + 400 ≤ room_1.slots) (kk : ∀ σ2, S (t + 1) σ2 → GG Δ m_Law_law Γ NN (k + 8) (c + 400) σ2 1559 (lvL Δ b (nI (5 * t))) []) : GG Δ m_Law_law Γ NN k c σ 269 (lvL Δ b (nI (5 * t))) [] := by
  obtain ⟨hX, hbl, hbA, hL, hR, hk⟩ := F
  have rc : Γ.R.cells = room_1.cells := by rw [hR]
  have rs : Γ.R.slots = room_1.slots := by rw [hR]
  obtain ⟨r, σ1, σ2, j1, j2, l1, l2, E1, E2, hS2⟩ := hD t (by omega) σ hS
  refine g_aload_n (pc := 269) (dd d_Law_law_1 29 rfl) rfl ?_
  refine g_callV (pc := 270) (dd d_Law_law_1 30 rfl) v_Law_107 ob_E rfl E1 rfl (by rw [hk]; omega) (Nat.le_of_ble_eq_true rfl) ⟨by rw [rc]; omega, by rw [rs]; omega⟩ rfl ?_
  refine g_aload_n (pc := 273) (dd d_Law_law_1 31 rfl) rfl ?_
  refine g_callV (pc := 274) (dd d_Law_law_1 32 rfl) v_Law_110 ob_MO rfl E2 rfl (by rw [hk]; omega) (Nat.le_of_ble_eq_true rfl) ⟨by rw [rc]; omega, by rw [rs]; omega⟩ rfl ?_
  refine g_icmpeq (pc := 277) (tgt := 1559) (dd d_Law_law_1 33 rfl) (by decide) (fun _ => ?_) (fun q => absurd rfl q)
  refine g_widen (k2 := k + 8) (c2 := c + 400) (by omega) (by omega) ?_
  exact kk σ2 hS2
theorem lc_listing {Δ : Dx} {Γ : Cx} {S : Nat → St → Prop} {b L t k c : Nat} {xs : Nat → Int32} {σ : St} (F : LF Δ Γ b L xs) (hD : Do_listing Δ S) (hS : S t σ) (ht : 5 * t + 5 ≤ L) (hf : k + 8 ≤ room_1.cells ∧ c + 400 ≤ room_1.slots) (kk : ∀ σ2, S (t + 1) σ2 → GG Δ m_Law_law Γ NN (k + 8) (c + 400) σ2 1559 (lvL Δ b (nI (5 * t))) []) : GG Δ m_Law_law Γ NN k c σ 282 (lvL Δ b (nI (5 * t))) [] := by
  obtain ⟨hX, hbl, hbA, hL, hR, hk⟩ := F
  have rc : Γ.R.cells = room_1.cells := by rw [hR]
  have rs : Γ.R.slots = room_1.slots := by rw [hR]
  obtain ⟨kx, rb, P, E1, hE2⟩ := hD (xs (nI (5 * t) + 1).toNatClampNeg) (xs (nI (5 * t) + 2).toNatClampNeg) t (by omega) σ hS
  refine g_aload_n (pc := 282) (dd d_Law_law_1 36 rfl) rfl ?_
  refine g_aload_n (pc := 283) (dd d_Law_law_1 37 rfl) rfl ?_
  refine g_iload (pc := 284) (dd d_Law_law_1 38 rfl) rfl ?_
  refine g_iconst (pc := 286) (v := 1) (dd d_Law_law_1 39 rfl) (by decide) ?_
  refine g_iadd (pc := 287) (dd d_Law_law_1 40 rfl) ?_
  refine g_sld (pc := 288) hX hbl hbA (si_in (j := 1) ht hL (by decide)) (dd d_Law_law_1 41 rfl) ?_
  refine g_aload_n (pc := 289) (dd d_Law_law_1 42 rfl) rfl ?_
  refine g_iload (pc := 290) (dd d_Law_law_1 43 rfl) rfl ?_
  refine g_iconst (pc := 292) (v := 2) (dd d_Law_law_1 44 rfl) (by decide) ?_
  refine g_iadd (pc := 293) (dd d_Law_law_1 45 rfl) ?_
  refine g_sld (pc := 294) hX hbl hbA (si_in (j := 2) ht hL (by decide)) (dd d_Law_law_1 46 rfl) ?_
  refine g_aload_n (pc := 295) (dd d_Law_law_1 47 rfl) rfl ?_
  refine g_callXE (pc := 296) (dd d_Law_law_1 48 rfl) x_Law_111 E1 rfl (by rw [hk]; decide) (Nat.le_of_ble_eq_true rfl) ⟨by rw [rc]; exact hf.1, by rw [rs]; exact hf.2⟩ rfl (fun σ1 hP1 => ?_)
  obtain ⟨σ2, j1, j2, l1, l2, E2, E3, he, hS2⟩ := hE2 σ1 hP1
  refine g_istore (pc := 299) (dd d_Law_law_1 49 rfl) (by decide) ?_
  refine g_aload_n (pc := 301) (dd d_Law_law_1 50 rfl) rfl ?_
  refine g_aload_n (pc := 302) (dd d_Law_law_1 51 rfl) rfl ?_
  refine g_iload (pc := 303) (dd d_Law_law_1 52 rfl) rfl ?_
  refine g_iconst (pc := 305) (v := 1) (dd d_Law_law_1 53 rfl) (by decide) ?_
  refine g_iadd (pc := 306) (dd d_Law_law_1 54 rfl) ?_
  refine g_sld (pc := 307) hX hbl hbA (si_in (j := 1) ht hL (by decide)) (dd d_Law_law_1 55 rfl) ?_
  refine g_aload_n (pc := 308) (dd d_Law_law_1 56 rfl) rfl ?_
  refine g_iload (pc := 309) (dd d_Law_law_1 57 rfl) rfl ?_
  refine g_iconst (pc := 311) (v := 2) (dd d_Law_law_1 58 rfl) (by decide) ?_
  refine g_iadd (pc := 312) (dd d_Law_law_1 59 rfl) ?_
  refine g_sld (pc := 313) hX hbl hbA (si_in (j := 2) ht hL (by decide)) (dd d_Law_law_2 0 rfl) ?_
  refine g_callV (pc := 314) (dd d_Law_law_2 1 rfl) v_Law_114 ob_MO rfl E2 rfl (by rw [hk]; omega) (Nat.le_of_ble_eq_true rfl) ⟨by rw [rc]; omega, by rw [rs]; omega⟩ rfl ?_
  refine g_istore (pc := 317) (dd d_Law_law_2 2 rfl) (by decide) ?_
  refine g_aload_n (pc := 319) (dd d_Law_law_2 3 rfl) rfl ?_
  refine g_callV (pc := 320) (dd d_Law_law_2 4 rfl) v_Law_95 ob_MO rfl E3 rfl (by rw [hk]; omega) (Nat.le_of_ble_eq_true rfl) ⟨by rw [rc]; omega, by rw [rs]; omega⟩ rfl ?_
  refine g_iload (pc := 323) (dd d_Law_law_2 5 rfl) rfl ?_
  refine g_icmpeq (pc := 325) (tgt := 330) (dd d_Law_law_2 6 rfl) (by decide) (fun _ => ?_) (fun q => absurd rfl q)
  refine g_iload (pc := 330) (dd d_Law_law_2 9 rfl) rfl ?_
  suffices K : GG Δ m_Law_law Γ NN (k + 8) (c + 400) σ2 347 (lvL Δ b (nI (5 * t))) [] by
    refine g_ifne (pc := 332) (tgt := 347) (dd d_Law_law_2 10 rfl) (by decide) (fun _ => ?_) (fun q => ?_)
    · exact g_drop [5, 6] K
    · skip
      refine g_aload_n (pc := 335) (dd d_Law_law_2 11 rfl) rfl ?_
      refine g_iconst (pc := 336) (v := 0) (dd d_Law_law_2 12 rfl) (by decide) ?_
      refine g_lald (pc := 337) (dd d_Law_law_2 13 rfl) ar_OUT (by rw [vp_in_iff]; decide) ?_
      refine g_iload (pc := 338) (dd d_Law_law_2 14 rfl) rfl ?_
      refine g_i2l (pc := 340) (dd d_Law_law_2 15 rfl) ?_
      refine g_lcmp (pc := 341) (dd d_Law_law_2 16 rfl) ?_
      refine g_ifeq (pc := 342) (tgt := 347) (dd d_Law_law_2 17 rfl) (by decide) (fun _ => ?_) (fun q2 => absurd (cmp_self (he q)) q2)
      exact g_drop [5, 6] K
  refine g_goto (pc := 347) (tgt := 1559) (dd d_Law_law_2 20 rfl) (by decide) ?_
  exact kk σ2 hS2
theorem lc_codeOf {Δ : Dx} {Γ : Cx} {S : Nat → St → Prop} {b L t k c : Nat} {xs : Nat → Int32} {σ : St} (F : LF Δ Γ b L xs) (hD : Do_codeOf Δ S) (hS : S t σ) (ht : 5 * t + 5 ≤ L) (hf : k + 8 ≤ room_1.cells ∧ c + 400 ≤ room_1.slots) (kk : ∀ σ2, S (t + 1) σ2 → GG Δ m_Law_law Γ NN (k + 8) (c + 400) σ2 1559 (lvL Δ b (nI (5 * t))) []) : GG Δ m_Law_law Γ NN k c σ 350 (lvL Δ b (nI (5 * t))) [] := by
  obtain ⟨hX, hbl, hbA, hL, hR, hk⟩ := F
  have rc : Γ.R.cells = room_1.cells := by rw [hR]
  have rs : Γ.R.slots = room_1.slots := by rw [hR]
  obtain ⟨kx, rb, σ1, σ2, j1, j2, l1, l2, E1, E2, E3, he, hS2⟩ := hD (xs (nI (5 * t) + 1).toNatClampNeg) (xs (nI (5 * t) + 2).toNatClampNeg) t (by omega) σ hS
  refine g_aload_n (pc := 350) (dd d_Law_law_2 21 rfl) rfl ?_
  refine g_aload_n (pc := 351) (dd d_Law_law_2 22 rfl) rfl ?_
  refine g_iload (pc := 352) (dd d_Law_law_2 23 rfl) rfl ?_
  refine g_iconst (pc := 354) (v := 1) (dd d_Law_law_2 24 rfl) (by decide) ?_
  refine g_iadd (pc := 355) (dd d_Law_law_2 25 rfl) ?_
  refine g_sld (pc := 356) hX hbl hbA (si_in (j := 1) ht hL (by decide)) (dd d_Law_law_2 26 rfl) ?_
  refine g_aload_n (pc := 357) (dd d_Law_law_2 27 rfl) rfl ?_
  refine g_iload (pc := 358) (dd d_Law_law_2 28 rfl) rfl ?_
  refine g_iconst (pc := 360) (v := 2) (dd d_Law_law_2 29 rfl) (by decide) ?_
  refine g_iadd (pc := 361) (dd d_Law_law_2 30 rfl) ?_
  refine g_sld (pc := 362) hX hbl hbA (si_in (j := 2) ht hL (by decide)) (dd d_Law_law_2 31 rfl) ?_
  refine g_aload_n (pc := 363) (dd d_Law_law_2 32 rfl) rfl ?_
  refine g_callX (pc := 364) (dd d_Law_law_2 33 rfl) x_Law_115 E1 rfl (by rw [hk]; decide) (Nat.le_of_ble_eq_true rfl) ⟨by rw [rc]; exact hf.1, by rw [rs]; exact hf.2⟩ rfl ?_
  refine g_istore (pc := 367) (dd d_Law_law_2 34 rfl) (by decide) ?_
  refine g_aload_n (pc := 369) (dd d_Law_law_2 35 rfl) rfl ?_
  refine g_aload_n (pc := 370) (dd d_Law_law_2 36 rfl) rfl ?_
  refine g_iload (pc := 371) (dd d_Law_law_2 37 rfl) rfl ?_
  refine g_iconst (pc := 373) (v := 1) (dd d_Law_law_2 38 rfl) (by decide) ?_
  refine g_iadd (pc := 374) (dd d_Law_law_2 39 rfl) ?_
  refine g_sld (pc := 375) hX hbl hbA (si_in (j := 1) ht hL (by decide)) (dd d_Law_law_2 40 rfl) ?_
  refine g_aload_n (pc := 376) (dd d_Law_law_2 41 rfl) rfl ?_
  refine g_iload (pc := 377) (dd d_Law_law_2 42 rfl) rfl ?_
  refine g_iconst (pc := 379) (v := 2) (dd d_Law_law_2 43 rfl) (by decide) ?_
  refine g_iadd (pc := 380) (dd d_Law_law_2 44 rfl) ?_
  refine g_sld (pc := 381) hX hbl hbA (si_in (j := 2) ht hL (by decide)) (dd d_Law_law_2 45 rfl) ?_
  refine g_callV (pc := 382) (dd d_Law_law_2 46 rfl) v_Law_117 ob_MO rfl E2 rfl (by rw [hk]; omega) (Nat.le_of_ble_eq_true rfl) ⟨by rw [rc]; omega, by rw [rs]; omega⟩ rfl ?_
  refine g_istore (pc := 385) (dd d_Law_law_2 47 rfl) (by decide) ?_
  refine g_aload_n (pc := 387) (dd d_Law_law_2 48 rfl) rfl ?_
  refine g_callV (pc := 388) (dd d_Law_law_2 49 rfl) v_Law_95 ob_MO rfl E3 rfl (by rw [hk]; omega) (Nat.le_of_ble_eq_true rfl) ⟨by rw [rc]; omega, by rw [rs]; omega⟩ rfl ?_
  refine g_iload (pc := 391) (dd d_Law_law_2 50 rfl) rfl ?_
  refine g_icmpeq (pc := 393) (tgt := 398) (dd d_Law_law_2 51 rfl) (by decide) (fun _ => ?_) (fun q => absurd rfl q)
  refine g_iload (pc := 398) (dd d_Law_law_2 54 rfl) rfl ?_
  suffices K : GG Δ m_Law_law Γ NN (k + 8) (c + 400) σ2 415 (lvL Δ b (nI (5 * t))) [] by
    refine g_ifne (pc := 400) (tgt := 415) (dd d_Law_law_2 55 rfl) (by decide) (fun _ => ?_) (fun q => ?_)
    · exact g_drop [5, 6] K
    · skip
      refine g_aload_n (pc := 403) (dd d_Law_law_2 56 rfl) rfl ?_
      refine g_iconst (pc := 404) (v := 0) (dd d_Law_law_2 57 rfl) (by decide) ?_
      refine g_lald (pc := 405) (dd d_Law_law_2 58 rfl) ar_OUT (by rw [vp_in_iff]; decide) ?_
      refine g_iload (pc := 406) (dd d_Law_law_2 59 rfl) rfl ?_
      refine g_i2l (pc := 408) (dd d_Law_law_3 0 rfl) ?_
      refine g_lcmp (pc := 409) (dd d_Law_law_3 1 rfl) ?_
      refine g_ifeq (pc := 410) (tgt := 415) (dd d_Law_law_3 2 rfl) (by decide) (fun _ => ?_) (fun q2 => absurd (cmp_self (he q)) q2)
      exact g_drop [5, 6] K
  refine g_goto (pc := 415) (tgt := 1559) (dd d_Law_law_3 5 rfl) (by decide) ?_
  exact kk σ2 hS2
theorem lc_begin {Δ : Dx} {Γ : Cx} {S : Nat → St → Prop} {b L t k c : Nat} {xs : Nat → Int32} {σ : St} (F : LF Δ Γ b L xs) (hD : Do_begin Δ S) (hS : S t σ) (ht : 5 * t + 5 ≤ L) (hf : k + 8 ≤ room_1.cells ∧ c + 400 ≤ room_1.slots) (kk : ∀ σ2, S (t + 1) σ2 → GG Δ m_Law_law Γ NN (k + 8) (c + 400) σ2 1559 (lvL Δ b (nI (5 * t))) []) : GG Δ m_Law_law Γ NN k c σ 418 (lvL Δ b (nI (5 * t))) [] := by
  obtain ⟨hX, hbl, hbA, hL, hR, hk⟩ := F
  have rc : Γ.R.cells = room_1.cells := by rw [hR]
  have rs : Γ.R.slots = room_1.slots := by rw [hR]
  obtain ⟨σ1, σ2, j1, j2, l1, l2, E1, E2, hS2⟩ := hD (xs (nI (5 * t) + 1).toNatClampNeg) t (by omega) σ hS
  refine g_aload_n (pc := 418) (dd d_Law_law_3 6 rfl) rfl ?_
  refine g_aload_n (pc := 419) (dd d_Law_law_3 7 rfl) rfl ?_
  refine g_iload (pc := 420) (dd d_Law_law_3 8 rfl) rfl ?_
  refine g_iconst (pc := 422) (v := 1) (dd d_Law_law_3 9 rfl) (by decide) ?_
  refine g_iadd (pc := 423) (dd d_Law_law_3 10 rfl) ?_
  refine g_sld (pc := 424) hX hbl hbA (si_in (j := 1) ht hL (by decide)) (dd d_Law_law_3 11 rfl) ?_
  refine g_callV (pc := 425) (dd d_Law_law_3 12 rfl) v_Law_118 ob_E rfl E1 rfl (by rw [hk]; omega) (Nat.le_of_ble_eq_true rfl) ⟨by rw [rc]; omega, by rw [rs]; omega⟩ rfl ?_
  refine g_aload_n (pc := 428) (dd d_Law_law_3 13 rfl) rfl ?_
  refine g_aload_n (pc := 429) (dd d_Law_law_3 14 rfl) rfl ?_
  refine g_iload (pc := 430) (dd d_Law_law_3 15 rfl) rfl ?_
  refine g_iconst (pc := 432) (v := 1) (dd d_Law_law_3 16 rfl) (by decide) ?_
  refine g_iadd (pc := 433) (dd d_Law_law_3 17 rfl) ?_
  refine g_sld (pc := 434) hX hbl hbA (si_in (j := 1) ht hL (by decide)) (dd d_Law_law_3 18 rfl) ?_
  refine g_callV (pc := 435) (dd d_Law_law_3 19 rfl) v_Law_121 ob_MO rfl E2 rfl (by rw [hk]; omega) (Nat.le_of_ble_eq_true rfl) ⟨by rw [rc]; omega, by rw [rs]; omega⟩ rfl ?_
  refine g_goto (pc := 438) (tgt := 1559) (dd d_Law_law_3 20 rfl) (by decide) ?_
  refine g_widen (k2 := k + 8) (c2 := c + 400) (by omega) (by omega) ?_
  exact kk σ2 hS2
theorem lc_code {Δ : Dx} {Γ : Cx} {S : Nat → St → Prop} {b L t k c : Nat} {xs : Nat → Int32} {σ : St} (F : LF Δ Γ b L xs) (hD : Do_code Δ S) (hS : S t σ) (ht : 5 * t + 5 ≤ L) (hf : k + 8 ≤ room_1.cells ∧ c + 400 ≤ room_1.slots) (kk : ∀ σ2, S (t + 1) σ2 → GG Δ m_Law_law Γ NN (k + 8) (c + 400) σ2 1559 (lvL Δ b (nI (5 * t))) []) : GG Δ m_Law_law Γ NN k c σ 441 (lvL Δ b (nI (5 * t))) [] := by
  obtain ⟨hX, hbl, hbA, hL, hR, hk⟩ := F
  have rc : Γ.R.cells = room_1.cells := by rw [hR]
  have rs : Γ.R.slots = room_1.slots := by rw [hR]
  obtain ⟨kx, σ1, σ2, j1, j2, l1, l2, E1, E2, E3, hS2⟩ := hD (xs (nI (5 * t) + 1).toNatClampNeg) (xs (nI (5 * t) + 2).toNatClampNeg) (xs (nI (5 * t) + 3).toNatClampNeg) t (by omega) σ hS
  refine g_aload_n (pc := 441) (dd d_Law_law_3 21 rfl) rfl ?_
  refine g_aload_n (pc := 442) (dd d_Law_law_3 22 rfl) rfl ?_
  refine g_iload (pc := 443) (dd d_Law_law_3 23 rfl) rfl ?_
  refine g_iconst (pc := 445) (v := 1) (dd d_Law_law_3 24 rfl) (by decide) ?_
  refine g_iadd (pc := 446) (dd d_Law_law_3 25 rfl) ?_
  refine g_sld (pc := 447) hX hbl hbA (si_in (j := 1) ht hL (by decide)) (dd d_Law_law_3 26 rfl) ?_
  refine g_aload_n (pc := 448) (dd d_Law_law_3 27 rfl) rfl ?_
  refine g_iload (pc := 449) (dd d_Law_law_3 28 rfl) rfl ?_
  refine g_iconst (pc := 451) (v := 2) (dd d_Law_law_3 29 rfl) (by decide) ?_
  refine g_iadd (pc := 452) (dd d_Law_law_3 30 rfl) ?_
  refine g_sld (pc := 453) hX hbl hbA (si_in (j := 2) ht hL (by decide)) (dd d_Law_law_3 31 rfl) ?_
  refine g_aload_n (pc := 454) (dd d_Law_law_3 32 rfl) rfl ?_
  refine g_iload (pc := 455) (dd d_Law_law_3 33 rfl) rfl ?_
  refine g_iconst (pc := 457) (v := 3) (dd d_Law_law_3 34 rfl) (by decide) ?_
  refine g_iadd (pc := 458) (dd d_Law_law_3 35 rfl) ?_
  refine g_sld (pc := 459) hX hbl hbA (si_in (j := 3) ht hL (by decide)) (dd d_Law_law_3 36 rfl) ?_
  refine g_callX (pc := 460) (dd d_Law_law_3 37 rfl) x_Law_122 E1 rfl (by rw [hk]; decide) (Nat.le_of_ble_eq_true rfl) ⟨by rw [rc]; exact hf.1, by rw [rs]; exact hf.2⟩ rfl ?_
  refine g_istore (pc := 463) (dd d_Law_law_3 38 rfl) (by decide) ?_
  refine g_aload_n (pc := 465) (dd d_Law_law_3 39 rfl) rfl ?_
  refine g_aload_n (pc := 466) (dd d_Law_law_3 40 rfl) rfl ?_
  refine g_iload (pc := 467) (dd d_Law_law_3 41 rfl) rfl ?_
  refine g_iconst (pc := 469) (v := 1) (dd d_Law_law_3 42 rfl) (by decide) ?_
  refine g_iadd (pc := 470) (dd d_Law_law_3 43 rfl) ?_
  refine g_sld (pc := 471) hX hbl hbA (si_in (j := 1) ht hL (by decide)) (dd d_Law_law_3 44 rfl) ?_
  refine g_aload_n (pc := 472) (dd d_Law_law_3 45 rfl) rfl ?_
  refine g_iload (pc := 473) (dd d_Law_law_3 46 rfl) rfl ?_
  refine g_iconst (pc := 475) (v := 2) (dd d_Law_law_3 47 rfl) (by decide) ?_
  refine g_iadd (pc := 476) (dd d_Law_law_3 48 rfl) ?_
  refine g_sld (pc := 477) hX hbl hbA (si_in (j := 2) ht hL (by decide)) (dd d_Law_law_3 49 rfl) ?_
  refine g_aload_n (pc := 478) (dd d_Law_law_3 50 rfl) rfl ?_
  refine g_iload (pc := 479) (dd d_Law_law_3 51 rfl) rfl ?_
  refine g_iconst (pc := 481) (v := 3) (dd d_Law_law_3 52 rfl) (by decide) ?_
  refine g_iadd (pc := 482) (dd d_Law_law_3 53 rfl) ?_
  refine g_sld (pc := 483) hX hbl hbA (si_in (j := 3) ht hL (by decide)) (dd d_Law_law_3 54 rfl) ?_
  refine g_callV (pc := 484) (dd d_Law_law_3 55 rfl) v_Law_125 ob_MO rfl E2 rfl (by rw [hk]; omega) (Nat.le_of_ble_eq_true rfl) ⟨by rw [rc]; omega, by rw [rs]; omega⟩ rfl ?_
  refine g_aload_n (pc := 487) (dd d_Law_law_3 56 rfl) rfl ?_
  refine g_callV (pc := 488) (dd d_Law_law_3 57 rfl) v_Law_95 ob_MO rfl E3 rfl (by rw [hk]; omega) (Nat.le_of_ble_eq_true rfl) ⟨by rw [rc]; omega, by rw [rs]; omega⟩ rfl ?_
  refine g_iload (pc := 491) (dd d_Law_law_3 58 rfl) rfl ?_
  refine g_icmpeq (pc := 493) (tgt := 498) (dd d_Law_law_3 59 rfl) (by decide) (fun _ => ?_) (fun q => absurd rfl q)
  refine g_goto (pc := 498) (tgt := 1559) (dd d_Law_law_4 2 rfl) (by decide) ?_
  refine g_drop [5, 6] ?_
  exact kk σ2 hS2
theorem lc_word {Δ : Dx} {Γ : Cx} {S : Nat → St → Prop} {b L t k c : Nat} {xs : Nat → Int32} {σ : St} (F : LF Δ Γ b L xs) (hD : Do_word Δ S) (hS : S t σ) (ht : 5 * t + 5 ≤ L) (hf : k + 8 ≤ room_1.cells ∧ c + 400 ≤ room_1.slots) (kk : ∀ σ2, S (t + 1) σ2 → GG Δ m_Law_law Γ NN (k + 8) (c + 400) σ2 1559 (lvL Δ b (nI (5 * t))) []) : GG Δ m_Law_law Γ NN k c σ 501 (lvL Δ b (nI (5 * t))) [] := by
  obtain ⟨hX, hbl, hbA, hL, hR, hk⟩ := F
  have rc : Γ.R.cells = room_1.cells := by rw [hR]
  have rs : Γ.R.slots = room_1.slots := by rw [hR]
  obtain ⟨kx, σ1, σ2, j1, j2, l1, l2, E1, E2, E3, hS2⟩ := hD (xs (nI (5 * t) + 1).toNatClampNeg) (xs (nI (5 * t) + 2).toNatClampNeg) (xs (nI (5 * t) + 3).toNatClampNeg) (xs (nI (5 * t) + 4).toNatClampNeg) t (by omega) σ hS
  refine g_aload_n (pc := 501) (dd d_Law_law_4 3 rfl) rfl ?_
  refine g_aload_n (pc := 502) (dd d_Law_law_4 4 rfl) rfl ?_
  refine g_iload (pc := 503) (dd d_Law_law_4 5 rfl) rfl ?_
  refine g_iconst (pc := 505) (v := 1) (dd d_Law_law_4 6 rfl) (by decide) ?_
  refine g_iadd (pc := 506) (dd d_Law_law_4 7 rfl) ?_
  refine g_sld (pc := 507) hX hbl hbA (si_in (j := 1) ht hL (by decide)) (dd d_Law_law_4 8 rfl) ?_
  refine g_aload_n (pc := 508) (dd d_Law_law_4 9 rfl) rfl ?_
  refine g_iload (pc := 509) (dd d_Law_law_4 10 rfl) rfl ?_
  refine g_iconst (pc := 511) (v := 2) (dd d_Law_law_4 11 rfl) (by decide) ?_
  refine g_iadd (pc := 512) (dd d_Law_law_4 12 rfl) ?_
  refine g_sld (pc := 513) hX hbl hbA (si_in (j := 2) ht hL (by decide)) (dd d_Law_law_4 13 rfl) ?_
  refine g_aload_n (pc := 514) (dd d_Law_law_4 14 rfl) rfl ?_
  refine g_iload (pc := 515) (dd d_Law_law_4 15 rfl) rfl ?_
  refine g_iconst (pc := 517) (v := 3) (dd d_Law_law_4 16 rfl) (by decide) ?_
  refine g_iadd (pc := 518) (dd d_Law_law_4 17 rfl) ?_
  refine g_sld (pc := 519) hX hbl hbA (si_in (j := 3) ht hL (by decide)) (dd d_Law_law_4 18 rfl) ?_
  refine g_aload_n (pc := 520) (dd d_Law_law_4 19 rfl) rfl ?_
  refine g_iload (pc := 521) (dd d_Law_law_4 20 rfl) rfl ?_
  refine g_iconst (pc := 523) (v := 4) (dd d_Law_law_4 21 rfl) (by decide) ?_
  refine g_iadd (pc := 524) (dd d_Law_law_4 22 rfl) ?_
  refine g_sld (pc := 525) hX hbl hbA (si_in (j := 4) ht hL (by decide)) (dd d_Law_law_4 23 rfl) ?_
  refine g_callX (pc := 526) (dd d_Law_law_4 24 rfl) x_Law_126 E1 rfl (by rw [hk]; decide) (Nat.le_of_ble_eq_true rfl) ⟨by rw [rc]; exact hf.1, by rw [rs]; exact hf.2⟩ rfl ?_
  refine g_istore (pc := 529) (dd d_Law_law_4 25 rfl) (by decide) ?_
  refine g_aload_n (pc := 531) (dd d_Law_law_4 26 rfl) rfl ?_
  refine g_aload_n (pc := 532) (dd d_Law_law_4 27 rfl) rfl ?_
  refine g_iload (pc := 533) (dd d_Law_law_4 28 rfl) rfl ?_
  refine g_iconst (pc := 535) (v := 1) (dd d_Law_law_4 29 rfl) (by decide) ?_
  refine g_iadd (pc := 536) (dd d_Law_law_4 30 rfl) ?_
  refine g_sld (pc := 537) hX hbl hbA (si_in (j := 1) ht hL (by decide)) (dd d_Law_law_4 31 rfl) ?_
  refine g_aload_n (pc := 538) (dd d_Law_law_4 32 rfl) rfl ?_
  refine g_iload (pc := 539) (dd d_Law_law_4 33 rfl) rfl ?_
  refine g_iconst (pc := 541) (v := 2) (dd d_Law_law_4 34 rfl) (by decide) ?_
  refine g_iadd (pc := 542) (dd d_Law_law_4 35 rfl) ?_
  refine g_sld (pc := 543) hX hbl hbA (si_in (j := 2) ht hL (by decide)) (dd d_Law_law_4 36 rfl) ?_
  refine g_aload_n (pc := 544) (dd d_Law_law_4 37 rfl) rfl ?_
  refine g_iload (pc := 545) (dd d_Law_law_4 38 rfl) rfl ?_
  refine g_iconst (pc := 547) (v := 3) (dd d_Law_law_4 39 rfl) (by decide) ?_
  refine g_iadd (pc := 548) (dd d_Law_law_4 40 rfl) ?_
  refine g_sld (pc := 549) hX hbl hbA (si_in (j := 3) ht hL (by decide)) (dd d_Law_law_4 41 rfl) ?_
  refine g_aload_n (pc := 550) (dd d_Law_law_4 42 rfl) rfl ?_
  refine g_iload (pc := 551) (dd d_Law_law_4 43 rfl) rfl ?_
  refine g_iconst (pc := 553) (v := 4) (dd d_Law_law_4 44 rfl) (by decide) ?_
  refine g_iadd (pc := 554) (dd d_Law_law_4 45 rfl) ?_
  refine g_sld (pc := 555) hX hbl hbA (si_in (j := 4) ht hL (by decide)) (dd d_Law_law_4 46 rfl) ?_
  refine g_callV (pc := 556) (dd d_Law_law_4 47 rfl) v_Law_129 ob_MO rfl E2 rfl (by rw [hk]; omega) (Nat.le_of_ble_eq_true rfl) ⟨by rw [rc]; omega, by rw [rs]; omega⟩ rfl ?_
  refine g_aload_n (pc := 559) (dd d_Law_law_4 48 rfl) rfl ?_
  refine g_callV (pc := 560) (dd d_Law_law_4 49 rfl) v_Law_95 ob_MO rfl E3 rfl (by rw [hk]; omega) (Nat.le_of_ble_eq_true rfl) ⟨by rw [rc]; omega, by rw [rs]; omega⟩ rfl ?_
  refine g_iload (pc := 563) (dd d_Law_law_4 50 rfl) rfl ?_
  refine g_icmpeq (pc := 565) (tgt := 570) (dd d_Law_law_4 51 rfl) (by decide) (fun _ => ?_) (fun q => absurd rfl q)
  refine g_goto (pc := 570) (tgt := 1559) (dd d_Law_law_4 54 rfl) (by decide) ?_
  refine g_drop [5, 6] ?_
  exact kk σ2 hS2
theorem lc_register {Δ : Dx} {Γ : Cx} {S : Nat → St → Prop} {b L t k c : Nat} {xs : Nat → Int32} {σ : St} (F : LF Δ Γ b L xs) (hD : Do_register Δ S) (hS : S t σ) (ht : 5 * t + 5 ≤ L) (hf : k + 8 ≤ room_1.cells ∧ c + 400 ≤ room_1.slots) (kk : ∀ σ2, S (t + 1) σ2 → GG Δ m_Law_law Γ NN (k + 8) (c + 400) σ2 1559 (lvL Δ b (nI (5 * t))) []) : GG Δ m_Law_law Γ NN k c σ 573 (lvL Δ b (nI (5 * t))) [] := by
  obtain ⟨hX, hbl, hbA, hL, hR, hk⟩ := F
  have rc : Γ.R.cells = room_1.cells := by rw [hR]
  have rs : Γ.R.slots = room_1.slots := by rw [hR]
  obtain ⟨kx, σ1, σ2, j1, j2, l1, l2, E1, E2, E3, hS2⟩ := hD (xs (nI (5 * t) + 1).toNatClampNeg) (xs (nI (5 * t) + 2).toNatClampNeg) (xs (nI (5 * t) + 3).toNatClampNeg) t (by omega) σ hS
  refine g_aload_n (pc := 573) (dd d_Law_law_4 55 rfl) rfl ?_
  refine g_aload_n (pc := 574) (dd d_Law_law_4 56 rfl) rfl ?_
  refine g_iload (pc := 575) (dd d_Law_law_4 57 rfl) rfl ?_
  refine g_iconst (pc := 577) (v := 1) (dd d_Law_law_4 58 rfl) (by decide) ?_
  refine g_iadd (pc := 578) (dd d_Law_law_4 59 rfl) ?_
  refine g_sld (pc := 579) hX hbl hbA (si_in (j := 1) ht hL (by decide)) (dd d_Law_law_5 0 rfl) ?_
  refine g_aload_n (pc := 580) (dd d_Law_law_5 1 rfl) rfl ?_
  refine g_iload (pc := 581) (dd d_Law_law_5 2 rfl) rfl ?_
  refine g_iconst (pc := 583) (v := 2) (dd d_Law_law_5 3 rfl) (by decide) ?_
  refine g_iadd (pc := 584) (dd d_Law_law_5 4 rfl) ?_
  refine g_sld (pc := 585) hX hbl hbA (si_in (j := 2) ht hL (by decide)) (dd d_Law_law_5 5 rfl) ?_
  refine g_aload_n (pc := 586) (dd d_Law_law_5 6 rfl) rfl ?_
  refine g_iload (pc := 587) (dd d_Law_law_5 7 rfl) rfl ?_
  refine g_iconst (pc := 589) (v := 3) (dd d_Law_law_5 8 rfl) (by decide) ?_
  refine g_iadd (pc := 590) (dd d_Law_law_5 9 rfl) ?_
  refine g_sld (pc := 591) hX hbl hbA (si_in (j := 3) ht hL (by decide)) (dd d_Law_law_5 10 rfl) ?_
  refine g_callX (pc := 592) (dd d_Law_law_5 11 rfl) x_Law_130 E1 rfl (by rw [hk]; decide) (Nat.le_of_ble_eq_true rfl) ⟨by rw [rc]; exact hf.1, by rw [rs]; exact hf.2⟩ rfl ?_
  refine g_istore (pc := 595) (dd d_Law_law_5 12 rfl) (by decide) ?_
  refine g_aload_n (pc := 597) (dd d_Law_law_5 13 rfl) rfl ?_
  refine g_aload_n (pc := 598) (dd d_Law_law_5 14 rfl) rfl ?_
  refine g_iload (pc := 599) (dd d_Law_law_5 15 rfl) rfl ?_
  refine g_iconst (pc := 601) (v := 1) (dd d_Law_law_5 16 rfl) (by decide) ?_
  refine g_iadd (pc := 602) (dd d_Law_law_5 17 rfl) ?_
  refine g_sld (pc := 603) hX hbl hbA (si_in (j := 1) ht hL (by decide)) (dd d_Law_law_5 18 rfl) ?_
  refine g_aload_n (pc := 604) (dd d_Law_law_5 19 rfl) rfl ?_
  refine g_iload (pc := 605) (dd d_Law_law_5 20 rfl) rfl ?_
  refine g_iconst (pc := 607) (v := 2) (dd d_Law_law_5 21 rfl) (by decide) ?_
  refine g_iadd (pc := 608) (dd d_Law_law_5 22 rfl) ?_
  refine g_sld (pc := 609) hX hbl hbA (si_in (j := 2) ht hL (by decide)) (dd d_Law_law_5 23 rfl) ?_
  refine g_aload_n (pc := 610) (dd d_Law_law_5 24 rfl) rfl ?_
  refine g_iload (pc := 611) (dd d_Law_law_5 25 rfl) rfl ?_
  refine g_iconst (pc := 613) (v := 3) (dd d_Law_law_5 26 rfl) (by decide) ?_
  refine g_iadd (pc := 614) (dd d_Law_law_5 27 rfl) ?_
  refine g_sld (pc := 615) hX hbl hbA (si_in (j := 3) ht hL (by decide)) (dd d_Law_law_5 28 rfl) ?_
  refine g_callV (pc := 616) (dd d_Law_law_5 29 rfl) v_Law_132 ob_MO rfl E2 rfl (by rw [hk]; omega) (Nat.le_of_ble_eq_true rfl) ⟨by rw [rc]; omega, by rw [rs]; omega⟩ rfl ?_
  refine g_aload_n (pc := 619) (dd d_Law_law_5 30 rfl) rfl ?_
  refine g_callV (pc := 620) (dd d_Law_law_5 31 rfl) v_Law_95 ob_MO rfl E3 rfl (by rw [hk]; omega) (Nat.le_of_ble_eq_true rfl) ⟨by rw [rc]; omega, by rw [rs]; omega⟩ rfl ?_
  refine g_iload (pc := 623) (dd d_Law_law_5 32 rfl) rfl ?_
  refine g_icmpeq (pc := 625) (tgt := 630) (dd d_Law_law_5 33 rfl) (by decide) (fun _ => ?_) (fun q => absurd rfl q)
  refine g_goto (pc := 630) (tgt := 1559) (dd d_Law_law_5 36 rfl) (by decide) ?_
  refine g_drop [5, 6] ?_
  exact kk σ2 hS2
theorem lc_input {Δ : Dx} {Γ : Cx} {S : Nat → St → Prop} {b L t k c : Nat} {xs : Nat → Int32} {σ : St} (F : LF Δ Γ b L xs) (hD : Do_input Δ S) (hS : S t σ) (ht : 5 * t + 5 ≤ L) (hf : k + 8 ≤ room_1.cells ∧ c + 400 ≤ room_1.slots) (kk : ∀ σ2, S (t + 1) σ2 → GG Δ m_Law_law Γ NN (k + 8) (c + 400) σ2 1559 (lvL Δ b (nI (5 * t))) []) : GG Δ m_Law_law Γ NN k c σ 633 (lvL Δ b (nI (5 * t))) [] := by
  obtain ⟨hX, hbl, hbA, hL, hR, hk⟩ := F
  have rc : Γ.R.cells = room_1.cells := by rw [hR]
  have rs : Γ.R.slots = room_1.slots := by rw [hR]
  obtain ⟨kx, rb, σ1, σ2, j1, j2, l1, l2, E1, E2, E3, he, hS2⟩ := hD (xs (nI (5 * t) + 1).toNatClampNeg) (xs (nI (5 * t) + 2).toNatClampNeg) t (by omega) σ hS
  refine g_aload_n (pc := 633) (dd d_Law_law_5 37 rfl) rfl ?_
  refine g_aload_n (pc := 634) (dd d_Law_law_5 38 rfl) rfl ?_
  refine g_iload (pc := 635) (dd d_Law_law_5 39 rfl) rfl ?_
  refine g_iconst (pc := 637) (v := 1) (dd d_Law_law_5 40 rfl) (by decide) ?_
  refine g_iadd (pc := 638) (dd d_Law_law_5 41 rfl) ?_
  refine g_sld (pc := 639) hX hbl hbA (si_in (j := 1) ht hL (by decide)) (dd d_Law_law_5 42 rfl) ?_
  refine g_aload_n (pc := 640) (dd d_Law_law_5 43 rfl) rfl ?_
  refine g_iload (pc := 641) (dd d_Law_law_5 44 rfl) rfl ?_
  refine g_iconst (pc := 643) (v := 2) (dd d_Law_law_5 45 rfl) (by decide) ?_
  refine g_iadd (pc := 644) (dd d_Law_law_5 46 rfl) ?_
  refine g_sld (pc := 645) hX hbl hbA (si_in (j := 2) ht hL (by decide)) (dd d_Law_law_5 47 rfl) ?_
  refine g_aload_n (pc := 646) (dd d_Law_law_5 48 rfl) rfl ?_
  refine g_callX (pc := 647) (dd d_Law_law_5 49 rfl) x_Law_133 E1 rfl (by rw [hk]; decide) (Nat.le_of_ble_eq_true rfl) ⟨by rw [rc]; exact hf.1, by rw [rs]; exact hf.2⟩ rfl ?_
  refine g_istore (pc := 650) (dd d_Law_law_5 50 rfl) (by decide) ?_
  refine g_aload_n (pc := 652) (dd d_Law_law_5 51 rfl) rfl ?_
  refine g_aload_n (pc := 653) (dd d_Law_law_5 52 rfl) rfl ?_
  refine g_iload (pc := 654) (dd d_Law_law_5 53 rfl) rfl ?_
  refine g_iconst (pc := 656) (v := 1) (dd d_Law_law_5 54 rfl) (by decide) ?_
  refine g_iadd (pc := 657) (dd d_Law_law_5 55 rfl) ?_
  refine g_sld (pc := 658) hX hbl hbA (si_in (j := 1) ht hL (by decide)) (dd d_Law_law_5 56 rfl) ?_
  refine g_aload_n (pc := 659) (dd d_Law_law_5 57 rfl) rfl ?_
  refine g_iload (pc := 660) (dd d_Law_law_5 58 rfl) rfl ?_
  refine g_iconst (pc := 662) (v := 2) (dd d_Law_law_5 59 rfl) (by decide) ?_
  refine g_iadd (pc := 663) (dd d_Law_law_6 0 rfl) ?_
  refine g_sld (pc := 664) hX hbl hbA (si_in (j := 2) ht hL (by decide)) (dd d_Law_law_6 1 rfl) ?_
  refine g_callV (pc := 665) (dd d_Law_law_6 2 rfl) v_Law_135 ob_MO rfl E2 rfl (by rw [hk]; omega) (Nat.le_of_ble_eq_true rfl) ⟨by rw [rc]; omega, by rw [rs]; omega⟩ rfl ?_
  refine g_istore (pc := 668) (dd d_Law_law_6 3 rfl) (by decide) ?_
  refine g_aload_n (pc := 670) (dd d_Law_law_6 4 rfl) rfl ?_
  refine g_callV (pc := 671) (dd d_Law_law_6 5 rfl) v_Law_95 ob_MO rfl E3 rfl (by rw [hk]; omega) (Nat.le_of_ble_eq_true rfl) ⟨by rw [rc]; omega, by rw [rs]; omega⟩ rfl ?_
  refine g_iload (pc := 674) (dd d_Law_law_6 6 rfl) rfl ?_
  refine g_icmpeq (pc := 676) (tgt := 681) (dd d_Law_law_6 7 rfl) (by decide) (fun _ => ?_) (fun q => absurd rfl q)
  refine g_iload (pc := 681) (dd d_Law_law_6 10 rfl) rfl ?_
  suffices K : GG Δ m_Law_law Γ NN (k + 8) (c + 400) σ2 698 (lvL Δ b (nI (5 * t))) [] by
    refine g_ifne (pc := 683) (tgt := 698) (dd d_Law_law_6 11 rfl) (by decide) (fun _ => ?_) (fun q => ?_)
    · exact g_drop [5, 6] K
    · skip
      refine g_aload_n (pc := 686) (dd d_Law_law_6 12 rfl) rfl ?_
      refine g_iconst (pc := 687) (v := 0) (dd d_Law_law_6 13 rfl) (by decide) ?_
      refine g_lald (pc := 688) (dd d_Law_law_6 14 rfl) ar_OUT (by rw [vp_in_iff]; decide) ?_
      refine g_iload (pc := 689) (dd d_Law_law_6 15 rfl) rfl ?_
      refine g_i2l (pc := 691) (dd d_Law_law_6 16 rfl) ?_
      refine g_lcmp (pc := 692) (dd d_Law_law_6 17 rfl) ?_
      refine g_ifeq (pc := 693) (tgt := 698) (dd d_Law_law_6 18 rfl) (by decide) (fun _ => ?_) (fun q2 => absurd (cmp_self (he q)) q2)
      exact g_drop [5, 6] K
  refine g_goto (pc := 698) (tgt := 1559) (dd d_Law_law_6 21 rfl) (by decide) ?_
  exact kk σ2 hS2
theorem lc_run {Δ : Dx} {Γ : Cx} {S : Nat → St → Prop} {b L t k c : Nat} {xs : Nat → Int32} {σ : St} (F : LF Δ Γ b L xs) (hD : Do_run Δ S) (hS : S t σ) (ht : 5 * t + 5 ≤ L) (hf : k + 8 ≤ room_1.cells ∧ c + 400 ≤ room_1.slots) (kk : ∀ σ2, S (t + 1) σ2 → GG Δ m_Law_law Γ NN (k + 8) (c + 400) σ2 1559 (lvL Δ b (nI (5 * t))) []) : GG Δ m_Law_law Γ NN k c σ 701 (lvL Δ b (nI (5 * t))) [] := by
  obtain ⟨hX, hbl, hbA, hL, hR, hk⟩ := F
  have rc : Γ.R.cells = room_1.cells := by rw [hR]
  have rs : Γ.R.slots = room_1.slots := by rw [hR]
  obtain ⟨kx, rb, σ1, σ2, j1, j2, l1, l2, E1, E2, E3, he, hS2⟩ := hD (xs (nI (5 * t) + 1).toNatClampNeg) t (by omega) σ hS
  refine g_aload_n (pc := 701) (dd d_Law_law_6 22 rfl) rfl ?_
  refine g_aload_n (pc := 702) (dd d_Law_law_6 23 rfl) rfl ?_
  refine g_iload (pc := 703) (dd d_Law_law_6 24 rfl) rfl ?_
  refine g_iconst (pc := 705) (v := 1) (dd d_Law_law_6 25 rfl) (by decide) ?_
  refine g_iadd (pc := 706) (dd d_Law_law_6 26 rfl) ?_
  refine g_sld (pc := 707) hX hbl hbA (si_in (j := 1) ht hL (by decide)) (dd d_Law_law_6 27 rfl) ?_
  refine g_aload_n (pc := 708) (dd d_Law_law_6 28 rfl) rfl ?_
  refine g_callX (pc := 709) (dd d_Law_law_6 29 rfl) x_Law_136 E1 rfl (by rw [hk]; decide) (Nat.le_of_ble_eq_true rfl) ⟨by rw [rc]; exact hf.1, by rw [rs]; exact hf.2⟩ rfl ?_
  refine g_istore (pc := 712) (dd d_Law_law_6 30 rfl) (by decide) ?_
  refine g_aload_n (pc := 714) (dd d_Law_law_6 31 rfl) rfl ?_
  refine g_aload_n (pc := 715) (dd d_Law_law_6 32 rfl) rfl ?_
  refine g_iload (pc := 716) (dd d_Law_law_6 33 rfl) rfl ?_
  refine g_iconst (pc := 718) (v := 1) (dd d_Law_law_6 34 rfl) (by decide) ?_
  refine g_iadd (pc := 719) (dd d_Law_law_6 35 rfl) ?_
  refine g_sld (pc := 720) hX hbl hbA (si_in (j := 1) ht hL (by decide)) (dd d_Law_law_6 36 rfl) ?_
  refine g_callV (pc := 721) (dd d_Law_law_6 37 rfl) v_Law_138 ob_MO rfl E2 rfl (by rw [hk]; omega) (Nat.le_of_ble_eq_true rfl) ⟨by rw [rc]; omega, by rw [rs]; omega⟩ rfl ?_
  refine g_istore (pc := 724) (dd d_Law_law_6 38 rfl) (by decide) ?_
  refine g_aload_n (pc := 726) (dd d_Law_law_6 39 rfl) rfl ?_
  refine g_callV (pc := 727) (dd d_Law_law_6 40 rfl) v_Law_95 ob_MO rfl E3 rfl (by rw [hk]; omega) (Nat.le_of_ble_eq_true rfl) ⟨by rw [rc]; omega, by rw [rs]; omega⟩ rfl ?_
  refine g_iload (pc := 730) (dd d_Law_law_6 41 rfl) rfl ?_
  refine g_icmpeq (pc := 732) (tgt := 737) (dd d_Law_law_6 42 rfl) (by decide) (fun _ => ?_) (fun q => absurd rfl q)
  refine g_iload (pc := 737) (dd d_Law_law_6 45 rfl) rfl ?_
  suffices K : GG Δ m_Law_law Γ NN (k + 8) (c + 400) σ2 754 (lvL Δ b (nI (5 * t))) [] by
    refine g_ifne (pc := 739) (tgt := 754) (dd d_Law_law_6 46 rfl) (by decide) (fun _ => ?_) (fun q => ?_)
    · exact g_drop [5, 6] K
    · skip
      refine g_aload_n (pc := 742) (dd d_Law_law_6 47 rfl) rfl ?_
      refine g_iconst (pc := 743) (v := 0) (dd d_Law_law_6 48 rfl) (by decide) ?_
      refine g_lald (pc := 744) (dd d_Law_law_6 49 rfl) ar_OUT (by rw [vp_in_iff]; decide) ?_
      refine g_iload (pc := 745) (dd d_Law_law_6 50 rfl) rfl ?_
      refine g_i2l (pc := 747) (dd d_Law_law_6 51 rfl) ?_
      refine g_lcmp (pc := 748) (dd d_Law_law_6 52 rfl) ?_
      refine g_ifeq (pc := 749) (tgt := 754) (dd d_Law_law_6 53 rfl) (by decide) (fun _ => ?_) (fun q2 => absurd (cmp_self (he q)) q2)
      exact g_drop [5, 6] K
  refine g_goto (pc := 754) (tgt := 1559) (dd d_Law_law_6 56 rfl) (by decide) ?_
  exact kk σ2 hS2
theorem lc_state {Δ : Dx} {Γ : Cx} {S : Nat → St → Prop} {b L t k c : Nat} {xs : Nat → Int32} {σ : St} (F : LF Δ Γ b L xs) (hD : Do_state Δ S) (hS : S t σ) (ht : 5 * t + 5 ≤ L) (hf : k + 8 ≤ room_1.cells ∧ c + 400 ≤ room_1.slots) (kk : ∀ σ2, S (t + 1) σ2 → GG Δ m_Law_law Γ NN (k + 8) (c + 400) σ2 1559 (lvL Δ b (nI (5 * t))) []) : GG Δ m_Law_law Γ NN k c σ 757 (lvL Δ b (nI (5 * t))) [] := by
  obtain ⟨hX, hbl, hbA, hL, hR, hk⟩ := F
  have rc : Γ.R.cells = room_1.cells := by rw [hR]
  have rs : Γ.R.slots = room_1.slots := by rw [hR]
  obtain ⟨kx, rb, σ1, σ2, j1, j2, l1, l2, E1, E2, E3, he, hS2⟩ := hD (xs (nI (5 * t) + 1).toNatClampNeg) t (by omega) σ hS
  refine g_aload_n (pc := 757) (dd d_Law_law_6 57 rfl) rfl ?_
  refine g_aload_n (pc := 758) (dd d_Law_law_6 58 rfl) rfl ?_
  refine g_iload (pc := 759) (dd d_Law_law_6 59 rfl) rfl ?_
  refine g_iconst (pc := 761) (v := 1) (dd d_Law_law_7 0 rfl) (by decide) ?_
  refine g_iadd (pc := 762) (dd d_Law_law_7 1 rfl) ?_
  refine g_sld (pc := 763) hX hbl hbA (si_in (j := 1) ht hL (by decide)) (dd d_Law_law_7 2 rfl) ?_
  refine g_aload_n (pc := 764) (dd d_Law_law_7 3 rfl) rfl ?_
  refine g_callX (pc := 765) (dd d_Law_law_7 4 rfl) x_Law_139 E1 rfl (by rw [hk]; decide) (Nat.le_of_ble_eq_true rfl) ⟨by rw [rc]; exact hf.1, by rw [rs]; exact hf.2⟩ rfl ?_
  refine g_istore (pc := 768) (dd d_Law_law_7 5 rfl) (by decide) ?_
  refine g_aload_n (pc := 770) (dd d_Law_law_7 6 rfl) rfl ?_
  refine g_aload_n (pc := 771) (dd d_Law_law_7 7 rfl) rfl ?_
  refine g_iload (pc := 772) (dd d_Law_law_7 8 rfl) rfl ?_
  refine g_iconst (pc := 774) (v := 1) (dd d_Law_law_7 9 rfl) (by decide) ?_
  refine g_iadd (pc := 775) (dd d_Law_law_7 10 rfl) ?_
  refine g_sld (pc := 776) hX hbl hbA (si_in (j := 1) ht hL (by decide)) (dd d_Law_law_7 11 rfl) ?_
  refine g_callV (pc := 777) (dd d_Law_law_7 12 rfl) v_Law_141 ob_MO rfl E2 rfl (by rw [hk]; omega) (Nat.le_of_ble_eq_true rfl) ⟨by rw [rc]; omega, by rw [rs]; omega⟩ rfl ?_
  refine g_istore (pc := 780) (dd d_Law_law_7 13 rfl) (by decide) ?_
  refine g_aload_n (pc := 782) (dd d_Law_law_7 14 rfl) rfl ?_
  refine g_callV (pc := 783) (dd d_Law_law_7 15 rfl) v_Law_95 ob_MO rfl E3 rfl (by rw [hk]; omega) (Nat.le_of_ble_eq_true rfl) ⟨by rw [rc]; omega, by rw [rs]; omega⟩ rfl ?_
  refine g_iload (pc := 786) (dd d_Law_law_7 16 rfl) rfl ?_
  refine g_icmpeq (pc := 788) (tgt := 793) (dd d_Law_law_7 17 rfl) (by decide) (fun _ => ?_) (fun q => absurd rfl q)
  refine g_iload (pc := 793) (dd d_Law_law_7 20 rfl) rfl ?_
  suffices K : GG Δ m_Law_law Γ NN (k + 8) (c + 400) σ2 810 (lvL Δ b (nI (5 * t))) [] by
    refine g_ifne (pc := 795) (tgt := 810) (dd d_Law_law_7 21 rfl) (by decide) (fun _ => ?_) (fun q => ?_)
    · exact g_drop [5, 6] K
    · skip
      refine g_aload_n (pc := 798) (dd d_Law_law_7 22 rfl) rfl ?_
      refine g_iconst (pc := 799) (v := 0) (dd d_Law_law_7 23 rfl) (by decide) ?_
      refine g_lald (pc := 800) (dd d_Law_law_7 24 rfl) ar_OUT (by rw [vp_in_iff]; decide) ?_
      refine g_iload (pc := 801) (dd d_Law_law_7 25 rfl) rfl ?_
      refine g_i2l (pc := 803) (dd d_Law_law_7 26 rfl) ?_
      refine g_lcmp (pc := 804) (dd d_Law_law_7 27 rfl) ?_
      refine g_ifeq (pc := 805) (tgt := 810) (dd d_Law_law_7 28 rfl) (by decide) (fun _ => ?_) (fun q2 => absurd (cmp_self (he q)) q2)
      exact g_drop [5, 6] K
  refine g_goto (pc := 810) (tgt := 1559) (dd d_Law_law_7 31 rfl) (by decide) ?_
  exact kk σ2 hS2
theorem lc_registerOf {Δ : Dx} {Γ : Cx} {S : Nat → St → Prop} {b L t k c : Nat} {xs : Nat → Int32} {σ : St} (F : LF Δ Γ b L xs) (hD : Do_registerOf Δ S) (hS : S t σ) (ht : 5 * t + 5 ≤ L) (hf : k + 8 ≤ room_1.cells ∧ c + 400 ≤ room_1.slots) (kk : ∀ σ2, S (t + 1) σ2 → GG Δ m_Law_law Γ NN (k + 8) (c + 400) σ2 1559 (lvL Δ b (nI (5 * t))) []) : GG Δ m_Law_law Γ NN k c σ 813 (lvL Δ b (nI (5 * t))) [] := by
  obtain ⟨hX, hbl, hbA, hL, hR, hk⟩ := F
  have rc : Γ.R.cells = room_1.cells := by rw [hR]
  have rs : Γ.R.slots = room_1.slots := by rw [hR]
  obtain ⟨kx, rb, σ1, σ2, j1, j2, l1, l2, E1, E2, E3, he, hS2⟩ := hD (xs (nI (5 * t) + 1).toNatClampNeg) (xs (nI (5 * t) + 2).toNatClampNeg) t (by omega) σ hS
  refine g_aload_n (pc := 813) (dd d_Law_law_7 32 rfl) rfl ?_
  refine g_aload_n (pc := 814) (dd d_Law_law_7 33 rfl) rfl ?_
  refine g_iload (pc := 815) (dd d_Law_law_7 34 rfl) rfl ?_
  refine g_iconst (pc := 817) (v := 1) (dd d_Law_law_7 35 rfl) (by decide) ?_
  refine g_iadd (pc := 818) (dd d_Law_law_7 36 rfl) ?_
  refine g_sld (pc := 819) hX hbl hbA (si_in (j := 1) ht hL (by decide)) (dd d_Law_law_7 37 rfl) ?_
  refine g_aload_n (pc := 820) (dd d_Law_law_7 38 rfl) rfl ?_
  refine g_iload (pc := 821) (dd d_Law_law_7 39 rfl) rfl ?_
  refine g_iconst (pc := 823) (v := 2) (dd d_Law_law_7 40 rfl) (by decide) ?_
  refine g_iadd (pc := 824) (dd d_Law_law_7 41 rfl) ?_
  refine g_sld (pc := 825) hX hbl hbA (si_in (j := 2) ht hL (by decide)) (dd d_Law_law_7 42 rfl) ?_
  refine g_aload_n (pc := 826) (dd d_Law_law_7 43 rfl) rfl ?_
  refine g_callX (pc := 827) (dd d_Law_law_7 44 rfl) x_Law_142 E1 rfl (by rw [hk]; decide) (Nat.le_of_ble_eq_true rfl) ⟨by rw [rc]; exact hf.1, by rw [rs]; exact hf.2⟩ rfl ?_
  refine g_istore (pc := 830) (dd d_Law_law_7 45 rfl) (by decide) ?_
  refine g_aload_n (pc := 832) (dd d_Law_law_7 46 rfl) rfl ?_
  refine g_aload_n (pc := 833) (dd d_Law_law_7 47 rfl) rfl ?_
  refine g_iload (pc := 834) (dd d_Law_law_7 48 rfl) rfl ?_
  refine g_iconst (pc := 836) (v := 1) (dd d_Law_law_7 49 rfl) (by decide) ?_
  refine g_iadd (pc := 837) (dd d_Law_law_7 50 rfl) ?_
  refine g_sld (pc := 838) hX hbl hbA (si_in (j := 1) ht hL (by decide)) (dd d_Law_law_7 51 rfl) ?_
  refine g_aload_n (pc := 839) (dd d_Law_law_7 52 rfl) rfl ?_
  refine g_iload (pc := 840) (dd d_Law_law_7 53 rfl) rfl ?_
  refine g_iconst (pc := 842) (v := 2) (dd d_Law_law_7 54 rfl) (by decide) ?_
  refine g_iadd (pc := 843) (dd d_Law_law_7 55 rfl) ?_
  refine g_sld (pc := 844) hX hbl hbA (si_in (j := 2) ht hL (by decide)) (dd d_Law_law_7 56 rfl) ?_
  refine g_callV (pc := 845) (dd d_Law_law_7 57 rfl) v_Law_144 ob_MO rfl E2 rfl (by rw [hk]; omega) (Nat.le_of_ble_eq_true rfl) ⟨by rw [rc]; omega, by rw [rs]; omega⟩ rfl ?_
  refine g_istore (pc := 848) (dd d_Law_law_7 58 rfl) (by decide) ?_
  refine g_aload_n (pc := 850) (dd d_Law_law_7 59 rfl) rfl ?_
  refine g_callV (pc := 851) (dd d_Law_law_8 0 rfl) v_Law_95 ob_MO rfl E3 rfl (by rw [hk]; omega) (Nat.le_of_ble_eq_true rfl) ⟨by rw [rc]; omega, by rw [rs]; omega⟩ rfl ?_
  refine g_iload (pc := 854) (dd d_Law_law_8 1 rfl) rfl ?_
  refine g_icmpeq (pc := 856) (tgt := 861) (dd d_Law_law_8 2 rfl) (by decide) (fun _ => ?_) (fun q => absurd rfl q)
  refine g_iload (pc := 861) (dd d_Law_law_8 5 rfl) rfl ?_
  suffices K : GG Δ m_Law_law Γ NN (k + 8) (c + 400) σ2 878 (lvL Δ b (nI (5 * t))) [] by
    refine g_ifne (pc := 863) (tgt := 878) (dd d_Law_law_8 6 rfl) (by decide) (fun _ => ?_) (fun q => ?_)
    · exact g_drop [5, 6] K
    · skip
      refine g_aload_n (pc := 866) (dd d_Law_law_8 7 rfl) rfl ?_
      refine g_iconst (pc := 867) (v := 0) (dd d_Law_law_8 8 rfl) (by decide) ?_
      refine g_lald (pc := 868) (dd d_Law_law_8 9 rfl) ar_OUT (by rw [vp_in_iff]; decide) ?_
      refine g_iload (pc := 869) (dd d_Law_law_8 10 rfl) rfl ?_
      refine g_i2l (pc := 871) (dd d_Law_law_8 11 rfl) ?_
      refine g_lcmp (pc := 872) (dd d_Law_law_8 12 rfl) ?_
      refine g_ifeq (pc := 873) (tgt := 878) (dd d_Law_law_8 13 rfl) (by decide) (fun _ => ?_) (fun q2 => absurd (cmp_self (he q)) q2)
      exact g_drop [5, 6] K
  refine g_goto (pc := 878) (tgt := 1559) (dd d_Law_law_8 16 rfl) (by decide) ?_
  exact kk σ2 hS2
theorem lc_wordOf {Δ : Dx} {Γ : Cx} {S : Nat → St → Prop} {b L t k c : Nat} {xs : Nat → Int32} {σ : St} (F : LF Δ Γ b L xs) (hD : Do_wordOf Δ S) (hS : S t σ) (ht : 5 * t + 5 ≤ L) (hf : k + 8 ≤ room_1.cells ∧ c + 400 ≤ room_1.slots) (kk : ∀ σ2, S (t + 1) σ2 → GG Δ m_Law_law Γ NN (k + 8) (c + 400) σ2 1559 (lvL Δ b (nI (5 * t))) []) : GG Δ m_Law_law Γ NN k c σ 881 (lvL Δ b (nI (5 * t))) [] := by
  obtain ⟨hX, hbl, hbA, hL, hR, hk⟩ := F
  have rc : Γ.R.cells = room_1.cells := by rw [hR]
  have rs : Γ.R.slots = room_1.slots := by rw [hR]
  obtain ⟨kx, rb, σ1, σ2, j1, j2, l1, l2, E1, E2, E3, he, hS2⟩ := hD (xs (nI (5 * t) + 1).toNatClampNeg) (xs (nI (5 * t) + 2).toNatClampNeg) t (by omega) σ hS
  refine g_aload_n (pc := 881) (dd d_Law_law_8 17 rfl) rfl ?_
  refine g_aload_n (pc := 882) (dd d_Law_law_8 18 rfl) rfl ?_
  refine g_iload (pc := 883) (dd d_Law_law_8 19 rfl) rfl ?_
  refine g_iconst (pc := 885) (v := 1) (dd d_Law_law_8 20 rfl) (by decide) ?_
  refine g_iadd (pc := 886) (dd d_Law_law_8 21 rfl) ?_
  refine g_sld (pc := 887) hX hbl hbA (si_in (j := 1) ht hL (by decide)) (dd d_Law_law_8 22 rfl) ?_
  refine g_aload_n (pc := 888) (dd d_Law_law_8 23 rfl) rfl ?_
  refine g_iload (pc := 889) (dd d_Law_law_8 24 rfl) rfl ?_
  refine g_iconst (pc := 891) (v := 2) (dd d_Law_law_8 25 rfl) (by decide) ?_
  refine g_iadd (pc := 892) (dd d_Law_law_8 26 rfl) ?_
  refine g_sld (pc := 893) hX hbl hbA (si_in (j := 2) ht hL (by decide)) (dd d_Law_law_8 27 rfl) ?_
  refine g_aload_n (pc := 894) (dd d_Law_law_8 28 rfl) rfl ?_
  refine g_callX (pc := 895) (dd d_Law_law_8 29 rfl) x_Law_145 E1 rfl (by rw [hk]; decide) (Nat.le_of_ble_eq_true rfl) ⟨by rw [rc]; exact hf.1, by rw [rs]; exact hf.2⟩ rfl ?_
  refine g_istore (pc := 898) (dd d_Law_law_8 30 rfl) (by decide) ?_
  refine g_aload_n (pc := 900) (dd d_Law_law_8 31 rfl) rfl ?_
  refine g_aload_n (pc := 901) (dd d_Law_law_8 32 rfl) rfl ?_
  refine g_iload (pc := 902) (dd d_Law_law_8 33 rfl) rfl ?_
  refine g_iconst (pc := 904) (v := 1) (dd d_Law_law_8 34 rfl) (by decide) ?_
  refine g_iadd (pc := 905) (dd d_Law_law_8 35 rfl) ?_
  refine g_sld (pc := 906) hX hbl hbA (si_in (j := 1) ht hL (by decide)) (dd d_Law_law_8 36 rfl) ?_
  refine g_aload_n (pc := 907) (dd d_Law_law_8 37 rfl) rfl ?_
  refine g_iload (pc := 908) (dd d_Law_law_8 38 rfl) rfl ?_
  refine g_iconst (pc := 910) (v := 2) (dd d_Law_law_8 39 rfl) (by decide) ?_
  refine g_iadd (pc := 911) (dd d_Law_law_8 40 rfl) ?_
  refine g_sld (pc := 912) hX hbl hbA (si_in (j := 2) ht hL (by decide)) (dd d_Law_law_8 41 rfl) ?_
  refine g_callV (pc := 913) (dd d_Law_law_8 42 rfl) v_Law_147 ob_MO rfl E2 rfl (by rw [hk]; omega) (Nat.le_of_ble_eq_true rfl) ⟨by rw [rc]; omega, by rw [rs]; omega⟩ rfl ?_
  refine g_istore (pc := 916) (dd d_Law_law_8 43 rfl) (by decide) ?_
  refine g_aload_n (pc := 918) (dd d_Law_law_8 44 rfl) rfl ?_
  refine g_callV (pc := 919) (dd d_Law_law_8 45 rfl) v_Law_95 ob_MO rfl E3 rfl (by rw [hk]; omega) (Nat.le_of_ble_eq_true rfl) ⟨by rw [rc]; omega, by rw [rs]; omega⟩ rfl ?_
  refine g_iload (pc := 922) (dd d_Law_law_8 46 rfl) rfl ?_
  refine g_icmpeq (pc := 924) (tgt := 929) (dd d_Law_law_8 47 rfl) (by decide) (fun _ => ?_) (fun q => absurd rfl q)
  refine g_iload (pc := 929) (dd d_Law_law_8 50 rfl) rfl ?_
  suffices K : GG Δ m_Law_law Γ NN (k + 8) (c + 400) σ2 946 (lvL Δ b (nI (5 * t))) [] by
    refine g_ifne (pc := 931) (tgt := 946) (dd d_Law_law_8 51 rfl) (by decide) (fun _ => ?_) (fun q => ?_)
    · exact g_drop [5, 6] K
    · skip
      refine g_aload_n (pc := 934) (dd d_Law_law_8 52 rfl) rfl ?_
      refine g_iconst (pc := 935) (v := 0) (dd d_Law_law_8 53 rfl) (by decide) ?_
      refine g_lald (pc := 936) (dd d_Law_law_8 54 rfl) ar_OUT (by rw [vp_in_iff]; decide) ?_
      refine g_iload (pc := 937) (dd d_Law_law_8 55 rfl) rfl ?_
      refine g_i2l (pc := 939) (dd d_Law_law_8 56 rfl) ?_
      refine g_lcmp (pc := 940) (dd d_Law_law_8 57 rfl) ?_
      refine g_ifeq (pc := 941) (tgt := 946) (dd d_Law_law_8 58 rfl) (by decide) (fun _ => ?_) (fun q2 => absurd (cmp_self (he q)) q2)
      exact g_drop [5, 6] K
  refine g_goto (pc := 946) (tgt := 1559) (dd d_Law_law_9 1 rfl) (by decide) ?_
  exact kk σ2 hS2
theorem lc_output {Δ : Dx} {Γ : Cx} {S : Nat → St → Prop} {b L t k c : Nat} {xs : Nat → Int32} {σ : St} (F : LF Δ Γ b L xs) (hD : Do_output Δ S) (hS : S t σ) (ht : 5 * t + 5 ≤ L) (hf : k + 8 ≤ room_1.cells ∧ c + 400 ≤ room_1.slots) (kk : ∀ σ2, S (t + 1) σ2 → GG Δ m_Law_law Γ NN (k + 8) (c + 400) σ2 1559 (lvL Δ b (nI (5 * t))) []) : GG Δ m_Law_law Γ NN k c σ 949 (lvL Δ b (nI (5 * t))) [] := by
  obtain ⟨hX, hbl, hbA, hL, hR, hk⟩ := F
  have rc : Γ.R.cells = room_1.cells := by rw [hR]
  have rs : Γ.R.slots = room_1.slots := by rw [hR]
  obtain ⟨kx, rb, σ1, σ2, j1, j2, l1, l2, E1, E2, E3, he, hS2⟩ := hD (xs (nI (5 * t) + 1).toNatClampNeg) t (by omega) σ hS
  refine g_aload_n (pc := 949) (dd d_Law_law_9 2 rfl) rfl ?_
  refine g_aload_n (pc := 950) (dd d_Law_law_9 3 rfl) rfl ?_
  refine g_iload (pc := 951) (dd d_Law_law_9 4 rfl) rfl ?_
  refine g_iconst (pc := 953) (v := 1) (dd d_Law_law_9 5 rfl) (by decide) ?_
  refine g_iadd (pc := 954) (dd d_Law_law_9 6 rfl) ?_
  refine g_sld (pc := 955) hX hbl hbA (si_in (j := 1) ht hL (by decide)) (dd d_Law_law_9 7 rfl) ?_
  refine g_aload_n (pc := 956) (dd d_Law_law_9 8 rfl) rfl ?_
  refine g_callX (pc := 957) (dd d_Law_law_9 9 rfl) x_Law_148 E1 rfl (by rw [hk]; decide) (Nat.le_of_ble_eq_true rfl) ⟨by rw [rc]; exact hf.1, by rw [rs]; exact hf.2⟩ rfl ?_
  refine g_istore (pc := 960) (dd d_Law_law_9 10 rfl) (by decide) ?_
  refine g_aload_n (pc := 962) (dd d_Law_law_9 11 rfl) rfl ?_
  refine g_aload_n (pc := 963) (dd d_Law_law_9 12 rfl) rfl ?_
  refine g_iload (pc := 964) (dd d_Law_law_9 13 rfl) rfl ?_
  refine g_iconst (pc := 966) (v := 1) (dd d_Law_law_9 14 rfl) (by decide) ?_
  refine g_iadd (pc := 967) (dd d_Law_law_9 15 rfl) ?_
  refine g_sld (pc := 968) hX hbl hbA (si_in (j := 1) ht hL (by decide)) (dd d_Law_law_9 16 rfl) ?_
  refine g_callV (pc := 969) (dd d_Law_law_9 17 rfl) v_Law_150 ob_MO rfl E2 rfl (by rw [hk]; omega) (Nat.le_of_ble_eq_true rfl) ⟨by rw [rc]; omega, by rw [rs]; omega⟩ rfl ?_
  refine g_istore (pc := 972) (dd d_Law_law_9 18 rfl) (by decide) ?_
  refine g_aload_n (pc := 974) (dd d_Law_law_9 19 rfl) rfl ?_
  refine g_callV (pc := 975) (dd d_Law_law_9 20 rfl) v_Law_95 ob_MO rfl E3 rfl (by rw [hk]; omega) (Nat.le_of_ble_eq_true rfl) ⟨by rw [rc]; omega, by rw [rs]; omega⟩ rfl ?_
  refine g_iload (pc := 978) (dd d_Law_law_9 21 rfl) rfl ?_
  refine g_icmpeq (pc := 980) (tgt := 985) (dd d_Law_law_9 22 rfl) (by decide) (fun _ => ?_) (fun q => absurd rfl q)
  refine g_iload (pc := 985) (dd d_Law_law_9 25 rfl) rfl ?_
  suffices K : GG Δ m_Law_law Γ NN (k + 8) (c + 400) σ2 1002 (lvL Δ b (nI (5 * t))) [] by
    refine g_ifne (pc := 987) (tgt := 1002) (dd d_Law_law_9 26 rfl) (by decide) (fun _ => ?_) (fun q => ?_)
    · exact g_drop [5, 6] K
    · skip
      refine g_aload_n (pc := 990) (dd d_Law_law_9 27 rfl) rfl ?_
      refine g_iconst (pc := 991) (v := 0) (dd d_Law_law_9 28 rfl) (by decide) ?_
      refine g_lald (pc := 992) (dd d_Law_law_9 29 rfl) ar_OUT (by rw [vp_in_iff]; decide) ?_
      refine g_iload (pc := 993) (dd d_Law_law_9 30 rfl) rfl ?_
      refine g_i2l (pc := 995) (dd d_Law_law_9 31 rfl) ?_
      refine g_lcmp (pc := 996) (dd d_Law_law_9 32 rfl) ?_
      refine g_ifeq (pc := 997) (tgt := 1002) (dd d_Law_law_9 33 rfl) (by decide) (fun _ => ?_) (fun q2 => absurd (cmp_self (he q)) q2)
      exact g_drop [5, 6] K
  refine g_goto (pc := 1002) (tgt := 1559) (dd d_Law_law_9 36 rfl) (by decide) ?_
  exact kk σ2 hS2
theorem lc_pairOf {Δ : Dx} {Γ : Cx} {S : Nat → St → Prop} {b L t k c : Nat} {xs : Nat → Int32} {σ : St} (F : LF Δ Γ b L xs) (hD : Do_pairOf Δ S) (hS : S t σ) (ht : 5 * t + 5 ≤ L) (hf : k + 8 ≤ room_1.cells ∧ c + 400 ≤ room_1.slots) (kk : ∀ σ2, S (t + 1) σ2 → GG Δ m_Law_law Γ NN (k + 8) (c + 400) σ2 1559 (lvL Δ b (nI (5 * t))) []) : GG Δ m_Law_law Γ NN k c σ 1005 (lvL Δ b (nI (5 * t))) [] := by
  obtain ⟨hX, hbl, hbA, hL, hR, hk⟩ := F
  have rc : Γ.R.cells = room_1.cells := by rw [hR]
  have rs : Γ.R.slots = room_1.slots := by rw [hR]
  obtain ⟨kx, rb, σ1, σ2, j1, j2, l1, l2, E1, E2, E3, he, hS2⟩ := hD (xs (nI (5 * t) + 1).toNatClampNeg) (xs (nI (5 * t) + 2).toNatClampNeg) t (by omega) σ hS
  refine g_aload_n (pc := 1005) (dd d_Law_law_9 37 rfl) rfl ?_
  refine g_aload_n (pc := 1006) (dd d_Law_law_9 38 rfl) rfl ?_
  refine g_iload (pc := 1007) (dd d_Law_law_9 39 rfl) rfl ?_
  refine g_iconst (pc := 1009) (v := 1) (dd d_Law_law_9 40 rfl) (by decide) ?_
  refine g_iadd (pc := 1010) (dd d_Law_law_9 41 rfl) ?_
  refine g_sld (pc := 1011) hX hbl hbA (si_in (j := 1) ht hL (by decide)) (dd d_Law_law_9 42 rfl) ?_
  refine g_aload_n (pc := 1012) (dd d_Law_law_9 43 rfl) rfl ?_
  refine g_iload (pc := 1013) (dd d_Law_law_9 44 rfl) rfl ?_
  refine g_iconst (pc := 1015) (v := 2) (dd d_Law_law_9 45 rfl) (by decide) ?_
  refine g_iadd (pc := 1016) (dd d_Law_law_9 46 rfl) ?_
  refine g_sld (pc := 1017) hX hbl hbA (si_in (j := 2) ht hL (by decide)) (dd d_Law_law_9 47 rfl) ?_
  refine g_aload_n (pc := 1018) (dd d_Law_law_9 48 rfl) rfl ?_
  refine g_callX (pc := 1019) (dd d_Law_law_9 49 rfl) x_Law_151 E1 rfl (by rw [hk]; decide) (Nat.le_of_ble_eq_true rfl) ⟨by rw [rc]; exact hf.1, by rw [rs]; exact hf.2⟩ rfl ?_
  refine g_istore (pc := 1022) (dd d_Law_law_9 50 rfl) (by decide) ?_
  refine g_aload_n (pc := 1024) (dd d_Law_law_9 51 rfl) rfl ?_
  refine g_aload_n (pc := 1025) (dd d_Law_law_9 52 rfl) rfl ?_
  refine g_iload (pc := 1026) (dd d_Law_law_9 53 rfl) rfl ?_
  refine g_iconst (pc := 1028) (v := 1) (dd d_Law_law_9 54 rfl) (by decide) ?_
  refine g_iadd (pc := 1029) (dd d_Law_law_9 55 rfl) ?_
  refine g_sld (pc := 1030) hX hbl hbA (si_in (j := 1) ht hL (by decide)) (dd d_Law_law_9 56 rfl) ?_
  refine g_aload_n (pc := 1031) (dd d_Law_law_9 57 rfl) rfl ?_
  refine g_iload (pc := 1032) (dd d_Law_law_9 58 rfl) rfl ?_
  refine g_iconst (pc := 1034) (v := 2) (dd d_Law_law_9 59 rfl) (by decide) ?_
  refine g_iadd (pc := 1035) (dd d_Law_law_10 0 rfl) ?_
  refine g_sld (pc := 1036) hX hbl hbA (si_in (j := 2) ht hL (by decide)) (dd d_Law_law_10 1 rfl) ?_
  refine g_callV (pc := 1037) (dd d_Law_law_10 2 rfl) v_Law_153 ob_MO rfl E2 rfl (by rw [hk]; omega) (Nat.le_of_ble_eq_true rfl) ⟨by rw [rc]; omega, by rw [rs]; omega⟩ rfl ?_
  refine g_istore (pc := 1040) (dd d_Law_law_10 3 rfl) (by decide) ?_
  refine g_aload_n (pc := 1042) (dd d_Law_law_10 4 rfl) rfl ?_
  refine g_callV (pc := 1043) (dd d_Law_law_10 5 rfl) v_Law_95 ob_MO rfl E3 rfl (by rw [hk]; omega) (Nat.le_of_ble_eq_true rfl) ⟨by rw [rc]; omega, by rw [rs]; omega⟩ rfl ?_
  refine g_iload (pc := 1046) (dd d_Law_law_10 6 rfl) rfl ?_
  refine g_icmpeq (pc := 1048) (tgt := 1053) (dd d_Law_law_10 7 rfl) (by decide) (fun _ => ?_) (fun q => absurd rfl q)
  refine g_iload (pc := 1053) (dd d_Law_law_10 10 rfl) rfl ?_
  suffices K : GG Δ m_Law_law Γ NN (k + 8) (c + 400) σ2 1070 (lvL Δ b (nI (5 * t))) [] by
    refine g_ifne (pc := 1055) (tgt := 1070) (dd d_Law_law_10 11 rfl) (by decide) (fun _ => ?_) (fun q => ?_)
    · exact g_drop [5, 6] K
    · skip
      refine g_aload_n (pc := 1058) (dd d_Law_law_10 12 rfl) rfl ?_
      refine g_iconst (pc := 1059) (v := 0) (dd d_Law_law_10 13 rfl) (by decide) ?_
      refine g_lald (pc := 1060) (dd d_Law_law_10 14 rfl) ar_OUT (by rw [vp_in_iff]; decide) ?_
      refine g_iload (pc := 1061) (dd d_Law_law_10 15 rfl) rfl ?_
      refine g_i2l (pc := 1063) (dd d_Law_law_10 16 rfl) ?_
      refine g_lcmp (pc := 1064) (dd d_Law_law_10 17 rfl) ?_
      refine g_ifeq (pc := 1065) (tgt := 1070) (dd d_Law_law_10 18 rfl) (by decide) (fun _ => ?_) (fun q2 => absurd (cmp_self (he q)) q2)
      exact g_drop [5, 6] K
  refine g_goto (pc := 1070) (tgt := 1559) (dd d_Law_law_10 21 rfl) (by decide) ?_
  exact kk σ2 hS2
theorem lc_names {Δ : Dx} {Γ : Cx} {S : Nat → St → Prop} {b L t k c : Nat} {xs : Nat → Int32} {σ : St} (F : LF Δ Γ b L xs) (hD : Do_names Δ S) (hS : S t σ) (ht : 5 * t + 5 ≤ L) (hf : k + 8 ≤ room_1.cells ∧ c + 400 ≤ room_1.slots) (kk : ∀ σ2, S (t + 1) σ2 → GG Δ m_Law_law Γ NN (k + 8) (c + 400) σ2 1559 (lvL Δ b (nI (5 * t))) []) : GG Δ m_Law_law Γ NN k c σ 1073 (lvL Δ b (nI (5 * t))) [] := by
  obtain ⟨hX, hbl, hbA, hL, hR, hk⟩ := F
  have rc : Γ.R.cells = room_1.cells := by rw [hR]
  have rs : Γ.R.slots = room_1.slots := by rw [hR]
  obtain ⟨kx, rb, σ1, σ2, j1, j2, l1, l2, E1, E2, E3, he, hS2⟩ := hD (xs (nI (5 * t) + 1).toNatClampNeg) t (by omega) σ hS
  refine g_aload_n (pc := 1073) (dd d_Law_law_10 22 rfl) rfl ?_
  refine g_aload_n (pc := 1074) (dd d_Law_law_10 23 rfl) rfl ?_
  refine g_iload (pc := 1075) (dd d_Law_law_10 24 rfl) rfl ?_
  refine g_iconst (pc := 1077) (v := 1) (dd d_Law_law_10 25 rfl) (by decide) ?_
  refine g_iadd (pc := 1078) (dd d_Law_law_10 26 rfl) ?_
  refine g_sld (pc := 1079) hX hbl hbA (si_in (j := 1) ht hL (by decide)) (dd d_Law_law_10 27 rfl) ?_
  refine g_aload_n (pc := 1080) (dd d_Law_law_10 28 rfl) rfl ?_
  refine g_callX (pc := 1081) (dd d_Law_law_10 29 rfl) x_Law_154 E1 rfl (by rw [hk]; decide) (Nat.le_of_ble_eq_true rfl) ⟨by rw [rc]; exact hf.1, by rw [rs]; exact hf.2⟩ rfl ?_
  refine g_istore (pc := 1084) (dd d_Law_law_10 30 rfl) (by decide) ?_
  refine g_aload_n (pc := 1086) (dd d_Law_law_10 31 rfl) rfl ?_
  refine g_aload_n (pc := 1087) (dd d_Law_law_10 32 rfl) rfl ?_
  refine g_iload (pc := 1088) (dd d_Law_law_10 33 rfl) rfl ?_
  refine g_iconst (pc := 1090) (v := 1) (dd d_Law_law_10 34 rfl) (by decide) ?_
  refine g_iadd (pc := 1091) (dd d_Law_law_10 35 rfl) ?_
  refine g_sld (pc := 1092) hX hbl hbA (si_in (j := 1) ht hL (by decide)) (dd d_Law_law_10 36 rfl) ?_
  refine g_callV (pc := 1093) (dd d_Law_law_10 37 rfl) v_Law_156 ob_MO rfl E2 rfl (by rw [hk]; omega) (Nat.le_of_ble_eq_true rfl) ⟨by rw [rc]; omega, by rw [rs]; omega⟩ rfl ?_
  refine g_istore (pc := 1096) (dd d_Law_law_10 38 rfl) (by decide) ?_
  refine g_aload_n (pc := 1098) (dd d_Law_law_10 39 rfl) rfl ?_
  refine g_callV (pc := 1099) (dd d_Law_law_10 40 rfl) v_Law_95 ob_MO rfl E3 rfl (by rw [hk]; omega) (Nat.le_of_ble_eq_true rfl) ⟨by rw [rc]; omega, by rw [rs]; omega⟩ rfl ?_
  refine g_iload (pc := 1102) (dd d_Law_law_10 41 rfl) rfl ?_
  refine g_icmpeq (pc := 1104) (tgt := 1109) (dd d_Law_law_10 42 rfl) (by decide) (fun _ => ?_) (fun q => absurd rfl q)
  refine g_iload (pc := 1109) (dd d_Law_law_10 45 rfl) rfl ?_
  suffices K : GG Δ m_Law_law Γ NN (k + 8) (c + 400) σ2 1126 (lvL Δ b (nI (5 * t))) [] by
    refine g_ifne (pc := 1111) (tgt := 1126) (dd d_Law_law_10 46 rfl) (by decide) (fun _ => ?_) (fun q => ?_)
    · exact g_drop [5, 6] K
    · skip
      refine g_aload_n (pc := 1114) (dd d_Law_law_10 47 rfl) rfl ?_
      refine g_iconst (pc := 1115) (v := 0) (dd d_Law_law_10 48 rfl) (by decide) ?_
      refine g_lald (pc := 1116) (dd d_Law_law_10 49 rfl) ar_OUT (by rw [vp_in_iff]; decide) ?_
      refine g_iload (pc := 1117) (dd d_Law_law_10 50 rfl) rfl ?_
      refine g_i2l (pc := 1119) (dd d_Law_law_10 51 rfl) ?_
      refine g_lcmp (pc := 1120) (dd d_Law_law_10 52 rfl) ?_
      refine g_ifeq (pc := 1121) (tgt := 1126) (dd d_Law_law_10 53 rfl) (by decide) (fun _ => ?_) (fun q2 => absurd (cmp_self (he q)) q2)
      exact g_drop [5, 6] K
  refine g_goto (pc := 1126) (tgt := 1559) (dd d_Law_law_10 56 rfl) (by decide) ?_
  exact kk σ2 hS2
theorem lc_blame {Δ : Dx} {Γ : Cx} {S : Nat → St → Prop} {b L t k c : Nat} {xs : Nat → Int32} {σ : St} (F : LF Δ Γ b L xs) (hD : Do_blame Δ S) (hS : S t σ) (ht : 5 * t + 5 ≤ L) (hf : k + 8 ≤ room_1.cells ∧ c + 400 ≤ room_1.slots) (kk : ∀ σ2, S (t + 1) σ2 → GG Δ m_Law_law Γ NN (k + 8) (c + 400) σ2 1559 (lvL Δ b (nI (5 * t))) []) : GG Δ m_Law_law Γ NN k c σ 1129 (lvL Δ b (nI (5 * t))) [] := by
  obtain ⟨hX, hbl, hbA, hL, hR, hk⟩ := F
  have rc : Γ.R.cells = room_1.cells := by rw [hR]
  have rs : Γ.R.slots = room_1.slots := by rw [hR]
  obtain ⟨r, σ1, σ2, j1, j2, l1, l2, E1, E2, hS2⟩ := hD t (by omega) σ hS
  refine g_aload_n (pc := 1129) (dd d_Law_law_10 57 rfl) rfl ?_
  refine g_callV (pc := 1130) (dd d_Law_law_10 58 rfl) v_Law_157 ob_E rfl E1 rfl (by rw [hk]; omega) (Nat.le_of_ble_eq_true rfl) ⟨by rw [rc]; omega, by rw [rs]; omega⟩ rfl ?_
  refine g_aload_n (pc := 1133) (dd d_Law_law_10 59 rfl) rfl ?_
  refine g_callV (pc := 1134) (dd d_Law_law_11 0 rfl) v_Law_160 ob_MO rfl E2 rfl (by rw [hk]; omega) (Nat.le_of_ble_eq_true rfl) ⟨by rw [rc]; omega, by rw [rs]; omega⟩ rfl ?_
  refine g_icmpeq (pc := 1137) (tgt := 1559) (dd d_Law_law_11 1 rfl) (by decide) (fun _ => ?_) (fun q => absurd rfl q)
  refine g_widen (k2 := k + 8) (c2 := c + 400) (by omega) (by omega) ?_
  exact kk σ2 hS2
theorem lc_journal {Δ : Dx} {Γ : Cx} {S : Nat → St → Prop} {b L t k c : Nat} {xs : Nat → Int32} {σ : St} (F : LF Δ Γ b L xs) (hD : Do_journal Δ S) (hS : S t σ) (ht : 5 * t + 5 ≤ L) (hf : k + 8 ≤ room_1.cells ∧ c + 400 ≤ room_1.slots) (kk : ∀ σ2, S (t + 1) σ2 → GG Δ m_Law_law Γ NN (k + 8) (c + 400) σ2 1559 (lvL Δ b (nI (5 * t))) []) : GG Δ m_Law_law Γ NN k c σ 1142 (lvL Δ b (nI (5 * t))) [] := by
  obtain ⟨hX, hbl, hbA, hL, hR, hk⟩ := F
  have rc : Γ.R.cells = room_1.cells := by rw [hR]
  have rs : Γ.R.slots = room_1.slots := by rw [hR]
  obtain ⟨kx, rb, σ1, σ2, j1, j2, l1, l2, E1, E2, E3, he, hS2⟩ := hD (xs (nI (5 * t) + 1).toNatClampNeg) (xs (nI (5 * t) + 2).toNatClampNeg) t (by omega) σ hS
  refine g_aload_n (pc := 1142) (dd d_Law_law_11 4 rfl) rfl ?_
  refine g_aload_n (pc := 1143) (dd d_Law_law_11 5 rfl) rfl ?_
  refine g_iload (pc := 1144) (dd d_Law_law_11 6 rfl) rfl ?_
  refine g_iconst (pc := 1146) (v := 1) (dd d_Law_law_11 7 rfl) (by decide) ?_
  refine g_iadd (pc := 1147) (dd d_Law_law_11 8 rfl) ?_
  refine g_sld (pc := 1148) hX hbl hbA (si_in (j := 1) ht hL (by decide)) (dd d_Law_law_11 9 rfl) ?_
  refine g_aload_n (pc := 1149) (dd d_Law_law_11 10 rfl) rfl ?_
  refine g_iload (pc := 1150) (dd d_Law_law_11 11 rfl) rfl ?_
  refine g_iconst (pc := 1152) (v := 2) (dd d_Law_law_11 12 rfl) (by decide) ?_
  refine g_iadd (pc := 1153) (dd d_Law_law_11 13 rfl) ?_
  refine g_sld (pc := 1154) hX hbl hbA (si_in (j := 2) ht hL (by decide)) (dd d_Law_law_11 14 rfl) ?_
  refine g_aload_n (pc := 1155) (dd d_Law_law_11 15 rfl) rfl ?_
  refine g_callX (pc := 1156) (dd d_Law_law_11 16 rfl) x_Law_161 E1 rfl (by rw [hk]; decide) (Nat.le_of_ble_eq_true rfl) ⟨by rw [rc]; exact hf.1, by rw [rs]; exact hf.2⟩ rfl ?_
  refine g_istore (pc := 1159) (dd d_Law_law_11 17 rfl) (by decide) ?_
  refine g_aload_n (pc := 1161) (dd d_Law_law_11 18 rfl) rfl ?_
  refine g_aload_n (pc := 1162) (dd d_Law_law_11 19 rfl) rfl ?_
  refine g_iload (pc := 1163) (dd d_Law_law_11 20 rfl) rfl ?_
  refine g_iconst (pc := 1165) (v := 1) (dd d_Law_law_11 21 rfl) (by decide) ?_
  refine g_iadd (pc := 1166) (dd d_Law_law_11 22 rfl) ?_
  refine g_sld (pc := 1167) hX hbl hbA (si_in (j := 1) ht hL (by decide)) (dd d_Law_law_11 23 rfl) ?_
  refine g_aload_n (pc := 1168) (dd d_Law_law_11 24 rfl) rfl ?_
  refine g_iload (pc := 1169) (dd d_Law_law_11 25 rfl) rfl ?_
  refine g_iconst (pc := 1171) (v := 2) (dd d_Law_law_11 26 rfl) (by decide) ?_
  refine g_iadd (pc := 1172) (dd d_Law_law_11 27 rfl) ?_
  refine g_sld (pc := 1173) hX hbl hbA (si_in (j := 2) ht hL (by decide)) (dd d_Law_law_11 28 rfl) ?_
  refine g_callV (pc := 1174) (dd d_Law_law_11 29 rfl) v_Law_163 ob_MO rfl E2 rfl (by rw [hk]; omega) (Nat.le_of_ble_eq_true rfl) ⟨by rw [rc]; omega, by rw [rs]; omega⟩ rfl ?_
  refine g_istore (pc := 1177) (dd d_Law_law_11 30 rfl) (by decide) ?_
  refine g_aload_n (pc := 1179) (dd d_Law_law_11 31 rfl) rfl ?_
  refine g_callV (pc := 1180) (dd d_Law_law_11 32 rfl) v_Law_95 ob_MO rfl E3 rfl (by rw [hk]; omega) (Nat.le_of_ble_eq_true rfl) ⟨by rw [rc]; omega, by rw [rs]; omega⟩ rfl ?_
  refine g_iload (pc := 1183) (dd d_Law_law_11 33 rfl) rfl ?_
  refine g_icmpeq (pc := 1185) (tgt := 1190) (dd d_Law_law_11 34 rfl) (by decide) (fun _ => ?_) (fun q => absurd rfl q)
  refine g_iload (pc := 1190) (dd d_Law_law_11 37 rfl) rfl ?_
  suffices K : GG Δ m_Law_law Γ NN (k + 8) (c + 400) σ2 1207 (lvL Δ b (nI (5 * t))) [] by
    refine g_ifne (pc := 1192) (tgt := 1207) (dd d_Law_law_11 38 rfl) (by decide) (fun _ => ?_) (fun q => ?_)
    · exact g_drop [5, 6] K
    · skip
      refine g_aload_n (pc := 1195) (dd d_Law_law_11 39 rfl) rfl ?_
      refine g_iconst (pc := 1196) (v := 0) (dd d_Law_law_11 40 rfl) (by decide) ?_
      refine g_lald (pc := 1197) (dd d_Law_law_11 41 rfl) ar_OUT (by rw [vp_in_iff]; decide) ?_
      refine g_iload (pc := 1198) (dd d_Law_law_11 42 rfl) rfl ?_
      refine g_i2l (pc := 1200) (dd d_Law_law_11 43 rfl) ?_
      refine g_lcmp (pc := 1201) (dd d_Law_law_11 44 rfl) ?_
      refine g_ifeq (pc := 1202) (tgt := 1207) (dd d_Law_law_11 45 rfl) (by decide) (fun _ => ?_) (fun q2 => absurd (cmp_self (he q)) q2)
      exact g_drop [5, 6] K
  refine g_goto (pc := 1207) (tgt := 1559) (dd d_Law_law_11 48 rfl) (by decide) ?_
  exact kk σ2 hS2
theorem lc_count {Δ : Dx} {Γ : Cx} {S : Nat → St → Prop} {b L t k c : Nat} {xs : Nat → Int32} {σ : St} (F : LF Δ Γ b L xs) (hD : Do_count Δ S) (hS : S t σ) (ht : 5 * t + 5 ≤ L) (hf : k + 8 ≤ room_1.cells ∧ c + 400 ≤ room_1.slots) (kk : ∀ σ2, S (t + 1) σ2 → GG Δ m_Law_law Γ NN (k + 8) (c + 400) σ2 1559 (lvL Δ b (nI (5 * t))) []) : GG Δ m_Law_law Γ NN k c σ 1210 (lvL Δ b (nI (5 * t))) [] := by
  obtain ⟨hX, hbl, hbA, hL, hR, hk⟩ := F
  have rc : Γ.R.cells = room_1.cells := by rw [hR]
  have rs : Γ.R.slots = room_1.slots := by rw [hR]
  obtain ⟨kx, rb, σ1, σ2, j1, j2, l1, l2, E1, E2, E3, he, hS2⟩ := hD (xs (nI (5 * t) + 1).toNatClampNeg) (xs (nI (5 * t) + 2).toNatClampNeg) t (by omega) σ hS
  refine g_aload_n (pc := 1210) (dd d_Law_law_11 49 rfl) rfl ?_
  refine g_aload_n (pc := 1211) (dd d_Law_law_11 50 rfl) rfl ?_
  refine g_iload (pc := 1212) (dd d_Law_law_11 51 rfl) rfl ?_
  refine g_iconst (pc := 1214) (v := 1) (dd d_Law_law_11 52 rfl) (by decide) ?_
  refine g_iadd (pc := 1215) (dd d_Law_law_11 53 rfl) ?_
  refine g_sld (pc := 1216) hX hbl hbA (si_in (j := 1) ht hL (by decide)) (dd d_Law_law_11 54 rfl) ?_
  refine g_aload_n (pc := 1217) (dd d_Law_law_11 55 rfl) rfl ?_
  refine g_iload (pc := 1218) (dd d_Law_law_11 56 rfl) rfl ?_
  refine g_iconst (pc := 1220) (v := 2) (dd d_Law_law_11 57 rfl) (by decide) ?_
  refine g_iadd (pc := 1221) (dd d_Law_law_11 58 rfl) ?_
  refine g_sld (pc := 1222) hX hbl hbA (si_in (j := 2) ht hL (by decide)) (dd d_Law_law_11 59 rfl) ?_
  refine g_aload_n (pc := 1223) (dd d_Law_law_12 0 rfl) rfl ?_
  refine g_callX (pc := 1224) (dd d_Law_law_12 1 rfl) x_Law_164 E1 rfl (by rw [hk]; decide) (Nat.le_of_ble_eq_true rfl) ⟨by rw [rc]; exact hf.1, by rw [rs]; exact hf.2⟩ rfl ?_
  refine g_istore (pc := 1227) (dd d_Law_law_12 2 rfl) (by decide) ?_
  refine g_aload_n (pc := 1229) (dd d_Law_law_12 3 rfl) rfl ?_
  refine g_aload_n (pc := 1230) (dd d_Law_law_12 4 rfl) rfl ?_
  refine g_iload (pc := 1231) (dd d_Law_law_12 5 rfl) rfl ?_
  refine g_iconst (pc := 1233) (v := 1) (dd d_Law_law_12 6 rfl) (by decide) ?_
  refine g_iadd (pc := 1234) (dd d_Law_law_12 7 rfl) ?_
  refine g_sld (pc := 1235) hX hbl hbA (si_in (j := 1) ht hL (by decide)) (dd d_Law_law_12 8 rfl) ?_
  refine g_aload_n (pc := 1236) (dd d_Law_law_12 9 rfl) rfl ?_
  refine g_iload (pc := 1237) (dd d_Law_law_12 10 rfl) rfl ?_
  refine g_iconst (pc := 1239) (v := 2) (dd d_Law_law_12 11 rfl) (by decide) ?_
  refine g_iadd (pc := 1240) (dd d_Law_law_12 12 rfl) ?_
  refine g_sld (pc := 1241) hX hbl hbA (si_in (j := 2) ht hL (by decide)) (dd d_Law_law_12 13 rfl) ?_
  refine g_callV (pc := 1242) (dd d_Law_law_12 14 rfl) v_Law_166 ob_MO rfl E2 rfl (by rw [hk]; omega) (Nat.le_of_ble_eq_true rfl) ⟨by rw [rc]; omega, by rw [rs]; omega⟩ rfl ?_
  refine g_istore (pc := 1245) (dd d_Law_law_12 15 rfl) (by decide) ?_
  refine g_aload_n (pc := 1247) (dd d_Law_law_12 16 rfl) rfl ?_
  refine g_callV (pc := 1248) (dd d_Law_law_12 17 rfl) v_Law_95 ob_MO rfl E3 rfl (by rw [hk]; omega) (Nat.le_of_ble_eq_true rfl) ⟨by rw [rc]; omega, by rw [rs]; omega⟩ rfl ?_
  refine g_iload (pc := 1251) (dd d_Law_law_12 18 rfl) rfl ?_
  refine g_icmpeq (pc := 1253) (tgt := 1258) (dd d_Law_law_12 19 rfl) (by decide) (fun _ => ?_) (fun q => absurd rfl q)
  refine g_iload (pc := 1258) (dd d_Law_law_12 22 rfl) rfl ?_
  suffices K : GG Δ m_Law_law Γ NN (k + 8) (c + 400) σ2 1275 (lvL Δ b (nI (5 * t))) [] by
    refine g_ifne (pc := 1260) (tgt := 1275) (dd d_Law_law_12 23 rfl) (by decide) (fun _ => ?_) (fun q => ?_)
    · exact g_drop [5, 6] K
    · skip
      refine g_aload_n (pc := 1263) (dd d_Law_law_12 24 rfl) rfl ?_
      refine g_iconst (pc := 1264) (v := 0) (dd d_Law_law_12 25 rfl) (by decide) ?_
      refine g_lald (pc := 1265) (dd d_Law_law_12 26 rfl) ar_OUT (by rw [vp_in_iff]; decide) ?_
      refine g_iload (pc := 1266) (dd d_Law_law_12 27 rfl) rfl ?_
      refine g_i2l (pc := 1268) (dd d_Law_law_12 28 rfl) ?_
      refine g_lcmp (pc := 1269) (dd d_Law_law_12 29 rfl) ?_
      refine g_ifeq (pc := 1270) (tgt := 1275) (dd d_Law_law_12 30 rfl) (by decide) (fun _ => ?_) (fun q2 => absurd (cmp_self (he q)) q2)
      exact g_drop [5, 6] K
  refine g_goto (pc := 1275) (tgt := 1559) (dd d_Law_law_12 33 rfl) (by decide) ?_
  exact kk σ2 hS2
theorem lc_cacheOf {Δ : Dx} {Γ : Cx} {S : Nat → St → Prop} {b L t k c : Nat} {xs : Nat → Int32} {σ : St} (F : LF Δ Γ b L xs) (hD : Do_cacheOf Δ S) (hS : S t σ) (ht : 5 * t + 5 ≤ L) (hf : k + 8 ≤ room_1.cells ∧ c + 400 ≤ room_1.slots) (kk : ∀ σ2, S (t + 1) σ2 → GG Δ m_Law_law Γ NN (k + 8) (c + 400) σ2 1559 (lvL Δ b (nI (5 * t))) []) : GG Δ m_Law_law Γ NN k c σ 1278 (lvL Δ b (nI (5 * t))) [] := by
  obtain ⟨hX, hbl, hbA, hL, hR, hk⟩ := F
  have rc : Γ.R.cells = room_1.cells := by rw [hR]
  have rs : Γ.R.slots = room_1.slots := by rw [hR]
  obtain ⟨kx, rb, σ1, σ2, j1, j2, l1, l2, E1, E2, E3, he, hS2⟩ := hD (xs (nI (5 * t) + 1).toNatClampNeg) (xs (nI (5 * t) + 2).toNatClampNeg) t (by omega) σ hS
  refine g_aload_n (pc := 1278) (dd d_Law_law_12 34 rfl) rfl ?_
  refine g_aload_n (pc := 1279) (dd d_Law_law_12 35 rfl) rfl ?_
  refine g_iload (pc := 1280) (dd d_Law_law_12 36 rfl) rfl ?_
  refine g_iconst (pc := 1282) (v := 1) (dd d_Law_law_12 37 rfl) (by decide) ?_
  refine g_iadd (pc := 1283) (dd d_Law_law_12 38 rfl) ?_
  refine g_sld (pc := 1284) hX hbl hbA (si_in (j := 1) ht hL (by decide)) (dd d_Law_law_12 39 rfl) ?_
  refine g_aload_n (pc := 1285) (dd d_Law_law_12 40 rfl) rfl ?_
  refine g_iload (pc := 1286) (dd d_Law_law_12 41 rfl) rfl ?_
  refine g_iconst (pc := 1288) (v := 2) (dd d_Law_law_12 42 rfl) (by decide) ?_
  refine g_iadd (pc := 1289) (dd d_Law_law_12 43 rfl) ?_
  refine g_sld (pc := 1290) hX hbl hbA (si_in (j := 2) ht hL (by decide)) (dd d_Law_law_12 44 rfl) ?_
  refine g_aload_n (pc := 1291) (dd d_Law_law_12 45 rfl) rfl ?_
  refine g_callX (pc := 1292) (dd d_Law_law_12 46 rfl) x_Law_167 E1 rfl (by rw [hk]; decide) (Nat.le_of_ble_eq_true rfl) ⟨by rw [rc]; exact hf.1, by rw [rs]; exact hf.2⟩ rfl ?_
  refine g_istore (pc := 1295) (dd d_Law_law_12 47 rfl) (by decide) ?_
  refine g_aload_n (pc := 1297) (dd d_Law_law_12 48 rfl) rfl ?_
  refine g_aload_n (pc := 1298) (dd d_Law_law_12 49 rfl) rfl ?_
  refine g_iload (pc := 1299) (dd d_Law_law_12 50 rfl) rfl ?_
  refine g_iconst (pc := 1301) (v := 1) (dd d_Law_law_12 51 rfl) (by decide) ?_
  refine g_iadd (pc := 1302) (dd d_Law_law_12 52 rfl) ?_
  refine g_sld (pc := 1303) hX hbl hbA (si_in (j := 1) ht hL (by decide)) (dd d_Law_law_12 53 rfl) ?_
  refine g_aload_n (pc := 1304) (dd d_Law_law_12 54 rfl) rfl ?_
  refine g_iload (pc := 1305) (dd d_Law_law_12 55 rfl) rfl ?_
  refine g_iconst (pc := 1307) (v := 2) (dd d_Law_law_12 56 rfl) (by decide) ?_
  refine g_iadd (pc := 1308) (dd d_Law_law_12 57 rfl) ?_
  refine g_sld (pc := 1309) hX hbl hbA (si_in (j := 2) ht hL (by decide)) (dd d_Law_law_12 58 rfl) ?_
  refine g_callV (pc := 1310) (dd d_Law_law_12 59 rfl) v_Law_169 ob_MO rfl E2 rfl (by rw [hk]; omega) (Nat.le_of_ble_eq_true rfl) ⟨by rw [rc]; omega, by rw [rs]; omega⟩ rfl ?_
  refine g_istore (pc := 1313) (dd d_Law_law_13 0 rfl) (by decide) ?_
  refine g_aload_n (pc := 1315) (dd d_Law_law_13 1 rfl) rfl ?_
  refine g_callV (pc := 1316) (dd d_Law_law_13 2 rfl) v_Law_95 ob_MO rfl E3 rfl (by rw [hk]; omega) (Nat.le_of_ble_eq_true rfl) ⟨by rw [rc]; omega, by rw [rs]; omega⟩ rfl ?_
  refine g_iload (pc := 1319) (dd d_Law_law_13 3 rfl) rfl ?_
  refine g_icmpeq (pc := 1321) (tgt := 1326) (dd d_Law_law_13 4 rfl) (by decide) (fun _ => ?_) (fun q => absurd rfl q)
  refine g_iload (pc := 1326) (dd d_Law_law_13 7 rfl) rfl ?_
  suffices K : GG Δ m_Law_law Γ NN (k + 8) (c + 400) σ2 1343 (lvL Δ b (nI (5 * t))) [] by
    refine g_ifne (pc := 1328) (tgt := 1343) (dd d_Law_law_13 8 rfl) (by decide) (fun _ => ?_) (fun q => ?_)
    · exact g_drop [5, 6] K
    · skip
      refine g_aload_n (pc := 1331) (dd d_Law_law_13 9 rfl) rfl ?_
      refine g_iconst (pc := 1332) (v := 0) (dd d_Law_law_13 10 rfl) (by decide) ?_
      refine g_lald (pc := 1333) (dd d_Law_law_13 11 rfl) ar_OUT (by rw [vp_in_iff]; decide) ?_
      refine g_iload (pc := 1334) (dd d_Law_law_13 12 rfl) rfl ?_
      refine g_i2l (pc := 1336) (dd d_Law_law_13 13 rfl) ?_
      refine g_lcmp (pc := 1337) (dd d_Law_law_13 14 rfl) ?_
      refine g_ifeq (pc := 1338) (tgt := 1343) (dd d_Law_law_13 15 rfl) (by decide) (fun _ => ?_) (fun q2 => absurd (cmp_self (he q)) q2)
      exact g_drop [5, 6] K
  refine g_goto (pc := 1343) (tgt := 1559) (dd d_Law_law_13 18 rfl) (by decide) ?_
  exact kk σ2 hS2
theorem lc_keep {Δ : Dx} {Γ : Cx} {S : Nat → St → Prop} {b L t k c : Nat} {xs : Nat → Int32} {σ : St} (F : LF Δ Γ b L xs) (hD : Do_keep Δ S) (hS : S t σ) (ht : 5 * t + 5 ≤ L) (hf : k + 8 ≤ room_1.cells ∧ c + 400 ≤ room_1.slots) (kk : ∀ σ2, S (t + 1) σ2 → GG Δ m_Law_law Γ NN (k + 8) (c + 400) σ2 1559 (lvL Δ b (nI (5 * t))) []) : GG Δ m_Law_law Γ NN k c σ 1346 (lvL Δ b (nI (5 * t))) [] := by
  obtain ⟨hX, hbl, hbA, hL, hR, hk⟩ := F
  have rc : Γ.R.cells = room_1.cells := by rw [hR]
  have rs : Γ.R.slots = room_1.slots := by rw [hR]
  obtain ⟨σ1, σ2, j1, j2, l1, l2, E1, E2, hS2⟩ := hD t (by omega) σ hS
  refine g_aload_n (pc := 1346) (dd d_Law_law_13 19 rfl) rfl ?_
  refine g_callV (pc := 1347) (dd d_Law_law_13 20 rfl) v_Law_170 ob_E rfl E1 rfl (by rw [hk]; omega) (Nat.le_of_ble_eq_true rfl) ⟨by rw [rc]; omega, by rw [rs]; omega⟩ rfl ?_
  refine g_aload_n (pc := 1350) (dd d_Law_law_13 21 rfl) rfl ?_
  refine g_callV (pc := 1351) (dd d_Law_law_13 22 rfl) v_Law_173 ob_MO rfl E2 rfl (by rw [hk]; omega) (Nat.le_of_ble_eq_true rfl) ⟨by rw [rc]; omega, by rw [rs]; omega⟩ rfl ?_
  refine g_goto (pc := 1354) (tgt := 1559) (dd d_Law_law_13 23 rfl) (by decide) ?_
  refine g_widen (k2 := k + 8) (c2 := c + 400) (by omega) (by omega) ?_
  exact kk σ2 hS2
theorem lc_differ {Δ : Dx} {Γ : Cx} {S : Nat → St → Prop} {b L t k c : Nat} {xs : Nat → Int32} {σ : St} (F : LF Δ Γ b L xs) (hD : Do_differ Δ S) (hS : S t σ) (ht : 5 * t + 5 ≤ L) (hf : k + 8 ≤ room_1.cells ∧ c + 400 ≤ room_1.slots) (kk : ∀ σ2, S (t + 1) σ2 → GG Δ m_Law_law Γ NN (k + 8) (c + 400) σ2 1559 (lvL Δ b (nI (5 * t))) []) : GG Δ m_Law_law Γ NN k c σ 1357 (lvL Δ b (nI (5 * t))) [] := by
  obtain ⟨hX, hbl, hbA, hL, hR, hk⟩ := F
  have rc : Γ.R.cells = room_1.cells := by rw [hR]
  have rs : Γ.R.slots = room_1.slots := by rw [hR]
  obtain ⟨kx, rb, σ1, σ2, j1, j2, l1, l2, E1, E2, E3, he, hS2⟩ := hD (xs (nI (5 * t) + 1).toNatClampNeg) (xs (nI (5 * t) + 2).toNatClampNeg) t (by omega) σ hS
  refine g_aload_n (pc := 1357) (dd d_Law_law_13 24 rfl) rfl ?_
  refine g_aload_n (pc := 1358) (dd d_Law_law_13 25 rfl) rfl ?_
  refine g_iload (pc := 1359) (dd d_Law_law_13 26 rfl) rfl ?_
  refine g_iconst (pc := 1361) (v := 1) (dd d_Law_law_13 27 rfl) (by decide) ?_
  refine g_iadd (pc := 1362) (dd d_Law_law_13 28 rfl) ?_
  refine g_sld (pc := 1363) hX hbl hbA (si_in (j := 1) ht hL (by decide)) (dd d_Law_law_13 29 rfl) ?_
  refine g_aload_n (pc := 1364) (dd d_Law_law_13 30 rfl) rfl ?_
  refine g_iload (pc := 1365) (dd d_Law_law_13 31 rfl) rfl ?_
  refine g_iconst (pc := 1367) (v := 2) (dd d_Law_law_13 32 rfl) (by decide) ?_
  refine g_iadd (pc := 1368) (dd d_Law_law_13 33 rfl) ?_
  refine g_sld (pc := 1369) hX hbl hbA (si_in (j := 2) ht hL (by decide)) (dd d_Law_law_13 34 rfl) ?_
  refine g_aload_n (pc := 1370) (dd d_Law_law_13 35 rfl) rfl ?_
  refine g_callX (pc := 1371) (dd d_Law_law_13 36 rfl) x_Law_174 E1 rfl (by rw [hk]; decide) (Nat.le_of_ble_eq_true rfl) ⟨by rw [rc]; exact hf.1, by rw [rs]; exact hf.2⟩ rfl ?_
  refine g_istore (pc := 1374) (dd d_Law_law_13 37 rfl) (by decide) ?_
  refine g_aload_n (pc := 1376) (dd d_Law_law_13 38 rfl) rfl ?_
  refine g_aload_n (pc := 1377) (dd d_Law_law_13 39 rfl) rfl ?_
  refine g_iload (pc := 1378) (dd d_Law_law_13 40 rfl) rfl ?_
  refine g_iconst (pc := 1380) (v := 1) (dd d_Law_law_13 41 rfl) (by decide) ?_
  refine g_iadd (pc := 1381) (dd d_Law_law_13 42 rfl) ?_
  refine g_sld (pc := 1382) hX hbl hbA (si_in (j := 1) ht hL (by decide)) (dd d_Law_law_13 43 rfl) ?_
  refine g_aload_n (pc := 1383) (dd d_Law_law_13 44 rfl) rfl ?_
  refine g_iload (pc := 1384) (dd d_Law_law_13 45 rfl) rfl ?_
  refine g_iconst (pc := 1386) (v := 2) (dd d_Law_law_13 46 rfl) (by decide) ?_
  refine g_iadd (pc := 1387) (dd d_Law_law_13 47 rfl) ?_
  refine g_sld (pc := 1388) hX hbl hbA (si_in (j := 2) ht hL (by decide)) (dd d_Law_law_13 48 rfl) ?_
  refine g_callV (pc := 1389) (dd d_Law_law_13 49 rfl) v_Law_176 ob_MO rfl E2 rfl (by rw [hk]; omega) (Nat.le_of_ble_eq_true rfl) ⟨by rw [rc]; omega, by rw [rs]; omega⟩ rfl ?_
  refine g_istore (pc := 1392) (dd d_Law_law_13 50 rfl) (by decide) ?_
  refine g_aload_n (pc := 1394) (dd d_Law_law_13 51 rfl) rfl ?_
  refine g_callV (pc := 1395) (dd d_Law_law_13 52 rfl) v_Law_95 ob_MO rfl E3 rfl (by rw [hk]; omega) (Nat.le_of_ble_eq_true rfl) ⟨by rw [rc]; omega, by rw [rs]; omega⟩ rfl ?_
  refine g_iload (pc := 1398) (dd d_Law_law_13 53 rfl) rfl ?_
  refine g_icmpeq (pc := 1400) (tgt := 1405) (dd d_Law_law_13 54 rfl) (by decide) (fun _ => ?_) (fun q => absurd rfl q)
  refine g_iload (pc := 1405) (dd d_Law_law_13 57 rfl) rfl ?_
  suffices K : GG Δ m_Law_law Γ NN (k + 8) (c + 400) σ2 1422 (lvL Δ b (nI (5 * t))) [] by
    refine g_ifne (pc := 1407) (tgt := 1422) (dd d_Law_law_13 58 rfl) (by decide) (fun _ => ?_) (fun q => ?_)
    · exact g_drop [5, 6] K
    · skip
      refine g_aload_n (pc := 1410) (dd d_Law_law_13 59 rfl) rfl ?_
      refine g_iconst (pc := 1411) (v := 0) (dd d_Law_law_14 0 rfl) (by decide) ?_
      refine g_lald (pc := 1412) (dd d_Law_law_14 1 rfl) ar_OUT (by rw [vp_in_iff]; decide) ?_
      refine g_iload (pc := 1413) (dd d_Law_law_14 2 rfl) rfl ?_
      refine g_i2l (pc := 1415) (dd d_Law_law_14 3 rfl) ?_
      refine g_lcmp (pc := 1416) (dd d_Law_law_14 4 rfl) ?_
      refine g_ifeq (pc := 1417) (tgt := 1422) (dd d_Law_law_14 5 rfl) (by decide) (fun _ => ?_) (fun q2 => absurd (cmp_self (he q)) q2)
      exact g_drop [5, 6] K
  refine g_goto (pc := 1422) (tgt := 1559) (dd d_Law_law_14 8 rfl) (by decide) ?_
  exact kk σ2 hS2
theorem lc_witness {Δ : Dx} {Γ : Cx} {S : Nat → St → Prop} {b L t k c : Nat} {xs : Nat → Int32} {σ : St} (F : LF Δ Γ b L xs) (hD : Do_witness Δ S) (hS : S t σ) (ht : 5 * t + 5 ≤ L) (hf : k + 8 ≤ room_1.cells ∧ c + 400 ≤ room_1.slots) (kk : ∀ σ2, S (t + 1) σ2 → GG Δ m_Law_law Γ NN (k + 8) (c + 400) σ2 1559 (lvL Δ b (nI (5 * t))) []) : GG Δ m_Law_law Γ NN k c σ 1425 (lvL Δ b (nI (5 * t))) [] := by
  obtain ⟨hX, hbl, hbA, hL, hR, hk⟩ := F
  have rc : Γ.R.cells = room_1.cells := by rw [hR]
  have rs : Γ.R.slots = room_1.slots := by rw [hR]
  obtain ⟨kx, rb, σ1, σ2, j1, j2, l1, l2, E1, E2, E3, he, hS2⟩ := hD (xs (nI (5 * t) + 1).toNatClampNeg) t (by omega) σ hS
  refine g_aload_n (pc := 1425) (dd d_Law_law_14 9 rfl) rfl ?_
  refine g_aload_n (pc := 1426) (dd d_Law_law_14 10 rfl) rfl ?_
  refine g_iload (pc := 1427) (dd d_Law_law_14 11 rfl) rfl ?_
  refine g_iconst (pc := 1429) (v := 1) (dd d_Law_law_14 12 rfl) (by decide) ?_
  refine g_iadd (pc := 1430) (dd d_Law_law_14 13 rfl) ?_
  refine g_sld (pc := 1431) hX hbl hbA (si_in (j := 1) ht hL (by decide)) (dd d_Law_law_14 14 rfl) ?_
  refine g_aload_n (pc := 1432) (dd d_Law_law_14 15 rfl) rfl ?_
  refine g_callX (pc := 1433) (dd d_Law_law_14 16 rfl) x_Law_177 E1 rfl (by rw [hk]; decide) (Nat.le_of_ble_eq_true rfl) ⟨by rw [rc]; exact hf.1, by rw [rs]; exact hf.2⟩ rfl ?_
  refine g_istore (pc := 1436) (dd d_Law_law_14 17 rfl) (by decide) ?_
  refine g_aload_n (pc := 1438) (dd d_Law_law_14 18 rfl) rfl ?_
  refine g_aload_n (pc := 1439) (dd d_Law_law_14 19 rfl) rfl ?_
  refine g_iload (pc := 1440) (dd d_Law_law_14 20 rfl) rfl ?_
  refine g_iconst (pc := 1442) (v := 1) (dd d_Law_law_14 21 rfl) (by decide) ?_
  refine g_iadd (pc := 1443) (dd d_Law_law_14 22 rfl) ?_
  refine g_sld (pc := 1444) hX hbl hbA (si_in (j := 1) ht hL (by decide)) (dd d_Law_law_14 23 rfl) ?_
  refine g_callV (pc := 1445) (dd d_Law_law_14 24 rfl) v_Law_179 ob_MO rfl E2 rfl (by rw [hk]; omega) (Nat.le_of_ble_eq_true rfl) ⟨by rw [rc]; omega, by rw [rs]; omega⟩ rfl ?_
  refine g_istore (pc := 1448) (dd d_Law_law_14 25 rfl) (by decide) ?_
  refine g_aload_n (pc := 1450) (dd d_Law_law_14 26 rfl) rfl ?_
  refine g_callV (pc := 1451) (dd d_Law_law_14 27 rfl) v_Law_95 ob_MO rfl E3 rfl (by rw [hk]; omega) (Nat.le_of_ble_eq_true rfl) ⟨by rw [rc]; omega, by rw [rs]; omega⟩ rfl ?_
  refine g_iload (pc := 1454) (dd d_Law_law_14 28 rfl) rfl ?_
  refine g_icmpeq (pc := 1456) (tgt := 1461) (dd d_Law_law_14 29 rfl) (by decide) (fun _ => ?_) (fun q => absurd rfl q)
  refine g_iload (pc := 1461) (dd d_Law_law_14 32 rfl) rfl ?_
  suffices K : GG Δ m_Law_law Γ NN (k + 8) (c + 400) σ2 1478 (lvL Δ b (nI (5 * t))) [] by
    refine g_ifne (pc := 1463) (tgt := 1478) (dd d_Law_law_14 33 rfl) (by decide) (fun _ => ?_) (fun q => ?_)
    · exact g_drop [5, 6] K
    · skip
      refine g_aload_n (pc := 1466) (dd d_Law_law_14 34 rfl) rfl ?_
      refine g_iconst (pc := 1467) (v := 0) (dd d_Law_law_14 35 rfl) (by decide) ?_
      refine g_lald (pc := 1468) (dd d_Law_law_14 36 rfl) ar_OUT (by rw [vp_in_iff]; decide) ?_
      refine g_iload (pc := 1469) (dd d_Law_law_14 37 rfl) rfl ?_
      refine g_i2l (pc := 1471) (dd d_Law_law_14 38 rfl) ?_
      refine g_lcmp (pc := 1472) (dd d_Law_law_14 39 rfl) ?_
      refine g_ifeq (pc := 1473) (tgt := 1478) (dd d_Law_law_14 40 rfl) (by decide) (fun _ => ?_) (fun q2 => absurd (cmp_self (he q)) q2)
      exact g_drop [5, 6] K
  refine g_goto (pc := 1478) (tgt := 1559) (dd d_Law_law_14 43 rfl) (by decide) ?_
  exact kk σ2 hS2
theorem lc_twin {Δ : Dx} {Γ : Cx} {S : Nat → St → Prop} {b L t k c : Nat} {xs : Nat → Int32} {σ : St} (F : LF Δ Γ b L xs) (hD : Do_twin Δ S) (hS : S t σ) (ht : 5 * t + 5 ≤ L) (hf : k + 8 ≤ room_1.cells ∧ c + 400 ≤ room_1.slots) (kk : ∀ σ2, S (t + 1) σ2 → GG Δ m_Law_law Γ NN (k + 8) (c + 400) σ2 1559 (lvL Δ b (nI (5 * t))) []) : GG Δ m_Law_law Γ NN k c σ 1481 (lvL Δ b (nI (5 * t))) [] := by
  obtain ⟨hX, hbl, hbA, hL, hR, hk⟩ := F
  have rc : Γ.R.cells = room_1.cells := by rw [hR]
  have rs : Γ.R.slots = room_1.slots := by rw [hR]
  obtain ⟨σ1, σ2, j1, j2, l1, l2, E1, E2, hS2⟩ := hD t (by omega) σ hS
  refine g_aload_n (pc := 1481) (dd d_Law_law_14 44 rfl) rfl ?_
  refine g_callV (pc := 1482) (dd d_Law_law_14 45 rfl) v_Law_180 ob_E rfl E1 rfl (by rw [hk]; omega) (Nat.le_of_ble_eq_true rfl) ⟨by rw [rc]; omega, by rw [rs]; omega⟩ rfl ?_
  refine g_aload_n (pc := 1485) (dd d_Law_law_14 46 rfl) rfl ?_
  refine g_callV (pc := 1486) (dd d_Law_law_14 47 rfl) v_Law_183 ob_MO rfl E2 rfl (by rw [hk]; omega) (Nat.le_of_ble_eq_true rfl) ⟨by rw [rc]; omega, by rw [rs]; omega⟩ rfl ?_
  refine g_goto (pc := 1489) (tgt := 1559) (dd d_Law_law_14 48 rfl) (by decide) ?_
  refine g_widen (k2 := k + 8) (c2 := c + 400) (by omega) (by omega) ?_
  exact kk σ2 hS2
theorem lc_swap {Δ : Dx} {Γ : Cx} {S : Nat → St → Prop} {b L t k c : Nat} {xs : Nat → Int32} {σ : St} (F : LF Δ Γ b L xs) (hD : Do_swap Δ S) (hS : S t σ) (ht : 5 * t + 5 ≤ L) (hf : k + 8 ≤ room_1.cells ∧ c + 400 ≤ room_1.slots) (kk : ∀ σ2, S (t + 1) σ2 → GG Δ m_Law_law Γ NN (k + 8) (c + 400) σ2 1559 (lvL Δ b (nI (5 * t))) []) : GG Δ m_Law_law Γ NN k c σ 1492 (lvL Δ b (nI (5 * t))) [] := by
  obtain ⟨hX, hbl, hbA, hL, hR, hk⟩ := F
  have rc : Γ.R.cells = room_1.cells := by rw [hR]
  have rs : Γ.R.slots = room_1.slots := by rw [hR]
  obtain ⟨σ1, σ2, j1, j2, l1, l2, E1, E2, hS2⟩ := hD t (by omega) σ hS
  refine g_aload_n (pc := 1492) (dd d_Law_law_14 49 rfl) rfl ?_
  refine g_callV (pc := 1493) (dd d_Law_law_14 50 rfl) v_Law_184 ob_E rfl E1 rfl (by rw [hk]; omega) (Nat.le_of_ble_eq_true rfl) ⟨by rw [rc]; omega, by rw [rs]; omega⟩ rfl ?_
  refine g_aload_n (pc := 1496) (dd d_Law_law_14 51 rfl) rfl ?_
  refine g_callV (pc := 1497) (dd d_Law_law_14 52 rfl) v_Law_187 ob_MO rfl E2 rfl (by rw [hk]; omega) (Nat.le_of_ble_eq_true rfl) ⟨by rw [rc]; omega, by rw [rs]; omega⟩ rfl ?_
  refine g_goto (pc := 1500) (tgt := 1559) (dd d_Law_law_14 53 rfl) (by decide) ?_
  refine g_widen (k2 := k + 8) (c2 := c + 400) (by omega) (by omega) ?_
  exact kk σ2 hS2
theorem lc_unlike {Δ : Dx} {Γ : Cx} {S : Nat → St → Prop} {b L t k c : Nat} {xs : Nat → Int32} {σ : St} (F : LF Δ Γ b L xs) (hD : Do_unlike Δ S) (hS : S t σ) (ht : 5 * t + 5 ≤ L) (hf : k + 8 ≤ room_1.cells ∧ c + 400 ≤ room_1.slots) (kk : ∀ σ2, S (t + 1) σ2 → GG Δ m_Law_law Γ NN (k + 8) (c + 400) σ2 1559 (lvL Δ b (nI (5 * t))) []) : GG Δ m_Law_law Γ NN k c σ 1503 (lvL Δ b (nI (5 * t))) [] := by
  obtain ⟨hX, hbl, hbA, hL, hR, hk⟩ := F
  have rc : Γ.R.cells = room_1.cells := by rw [hR]
  have rs : Γ.R.slots = room_1.slots := by rw [hR]
  obtain ⟨kx, rb, σ1, σ2, j1, j2, l1, l2, E1, E2, E3, he, hS2⟩ := hD (xs (nI (5 * t) + 1).toNatClampNeg) t (by omega) σ hS
  refine g_aload_n (pc := 1503) (dd d_Law_law_14 54 rfl) rfl ?_
  refine g_aload_n (pc := 1504) (dd d_Law_law_14 55 rfl) rfl ?_
  refine g_iload (pc := 1505) (dd d_Law_law_14 56 rfl) rfl ?_
  refine g_iconst (pc := 1507) (v := 1) (dd d_Law_law_14 57 rfl) (by decide) ?_
  refine g_iadd (pc := 1508) (dd d_Law_law_14 58 rfl) ?_
  refine g_sld (pc := 1509) hX hbl hbA (si_in (j := 1) ht hL (by decide)) (dd d_Law_law_14 59 rfl) ?_
  refine g_aload_n (pc := 1510) (dd d_Law_law_15 0 rfl) rfl ?_
  refine g_callX (pc := 1511) (dd d_Law_law_15 1 rfl) x_Law_188 E1 rfl (by rw [hk]; decide) (Nat.le_of_ble_eq_true rfl) ⟨by rw [rc]; exact hf.1, by rw [rs]; exact hf.2⟩ rfl ?_
  refine g_istore (pc := 1514) (dd d_Law_law_15 2 rfl) (by decide) ?_
  refine g_aload_n (pc := 1516) (dd d_Law_law_15 3 rfl) rfl ?_
  refine g_aload_n (pc := 1517) (dd d_Law_law_15 4 rfl) rfl ?_
  refine g_iload (pc := 1518) (dd d_Law_law_15 5 rfl) rfl ?_
  refine g_iconst (pc := 1520) (v := 1) (dd d_Law_law_15 6 rfl) (by decide) ?_
  refine g_iadd (pc := 1521) (dd d_Law_law_15 7 rfl) ?_
  refine g_sld (pc := 1522) hX hbl hbA (si_in (j := 1) ht hL (by decide)) (dd d_Law_law_15 8 rfl) ?_
  refine g_callV (pc := 1523) (dd d_Law_law_15 9 rfl) v_Law_190 ob_MO rfl E2 rfl (by rw [hk]; omega) (Nat.le_of_ble_eq_true rfl) ⟨by rw [rc]; omega, by rw [rs]; omega⟩ rfl ?_
  refine g_istore (pc := 1526) (dd d_Law_law_15 10 rfl) (by decide) ?_
  refine g_aload_n (pc := 1528) (dd d_Law_law_15 11 rfl) rfl ?_
  refine g_callV (pc := 1529) (dd d_Law_law_15 12 rfl) v_Law_95 ob_MO rfl E3 rfl (by rw [hk]; omega) (Nat.le_of_ble_eq_true rfl) ⟨by rw [rc]; omega, by rw [rs]; omega⟩ rfl ?_
  refine g_iload (pc := 1532) (dd d_Law_law_15 13 rfl) rfl ?_
  refine g_icmpeq (pc := 1534) (tgt := 1539) (dd d_Law_law_15 14 rfl) (by decide) (fun _ => ?_) (fun q => absurd rfl q)
  refine g_iload (pc := 1539) (dd d_Law_law_15 17 rfl) rfl ?_
  suffices K : GG Δ m_Law_law Γ NN (k + 8) (c + 400) σ2 1556 (lvL Δ b (nI (5 * t))) [] by
    refine g_ifne (pc := 1541) (tgt := 1556) (dd d_Law_law_15 18 rfl) (by decide) (fun _ => ?_) (fun q => ?_)
    · exact g_drop [5, 6] K
    · skip
      refine g_aload_n (pc := 1544) (dd d_Law_law_15 19 rfl) rfl ?_
      refine g_iconst (pc := 1545) (v := 0) (dd d_Law_law_15 20 rfl) (by decide) ?_
      refine g_lald (pc := 1546) (dd d_Law_law_15 21 rfl) ar_OUT (by rw [vp_in_iff]; decide) ?_
      refine g_iload (pc := 1547) (dd d_Law_law_15 22 rfl) rfl ?_
      refine g_i2l (pc := 1549) (dd d_Law_law_15 23 rfl) ?_
      refine g_lcmp (pc := 1550) (dd d_Law_law_15 24 rfl) ?_
      refine g_ifeq (pc := 1551) (tgt := 1556) (dd d_Law_law_15 25 rfl) (by decide) (fun _ => ?_) (fun q2 => absurd (cmp_self (he q)) q2)
      exact g_drop [5, 6] K
  refine g_goto (pc := 1556) (tgt := 1559) (dd d_Law_law_15 28 rfl) (by decide) ?_
  exact kk σ2 hS2
theorem g_lawret {Δ : Dx} {Γ : Cx} {b L k c : Nat} {xs : Nat → Int32} {σ : St} {lv : List (Option Value)} (F : LF Δ Γ b L xs) (hQ : Γ.Q = lw_Z Γ.below #[Value.ref b] Γ.s) (ha : Γ.args = #[Value.ref b]) (h0 : Γ.s.heap.size = Δ.ba) (hk : k ≤ 601024) (hc : c ≤ 7293034) : GG Δ m_Law_law Γ NN k c σ 1566 lv [.int 1] := fun ok H locs ls hP hS hl => by
  obtain ⟨hX, hbl, hbA, hL, hR, hkk⟩ := F
  refine va_forget (fun q hq => by rw [h0]; exact hS.2.2 q hq) ?_
  refine W.widen hk hc ?_
  rw [hQ, ha, hR]
  exact lw_ret ok.1 ok.2.1 ok.2.2.2.2.2.1 ok.2.2.2.2.2.2.1 (dd d_Law_law_15 32 rfl)
set_option maxRecDepth 20000 in
set_option maxHeartbeats 4000000 in
theorem law_loop {Δ : Dx} {Γ : Cx} {S : Nat → St → Prop} {b L : Nat} {xs : Nat → Int32} (F : LF Δ Γ b L xs) (hQ : Γ.Q = lw_Z Γ.below #[Value.ref b] Γ.s) (ha : Γ.args = #[Value.ref b]) (h0 : Γ.s.heap.size = Δ.ba) (hD : DoAll Δ S) : ∀ (d t k c : Nat) (σ : St), S t σ → L + 5 ≤ 5 * t + d → 5 * t ≤ L → k ≤ 1000 + 8 * t → c ≤ 100000 + 400 * t → GG Δ m_Law_law Γ NN k c σ 23 (lvL Δ b (nI (5 * t))) [] := by
  intro d
  induction d using Nat.strongRecOn with
  | _ d ih =>
  intro t k c σ hS hd ht hk hc
  obtain ⟨hX, hbl, hbA, hL, hR, hkk⟩ := id F
  refine g_iload (pc := 23) (dd d_Law_law 13 rfl) rfl ?_
  refine g_aload_n (pc := 25) (dd d_Law_law 14 rfl) rfl ?_
  refine g_slen (pc := 26) hX hbl hbA (dd d_Law_law 15 rfl) ?_
  refine g_iconst (pc := 27) (v := 5) (dd d_Law_law 16 rfl) (by decide) ?_
  refine g_isub (pc := 28) (dd d_Law_law 17 rfl) ?_
  refine g_icmpgt (pc := 29) (tgt := 1565) (dd d_Law_law 18 rfl) (by decide) (fun q => ?_) (fun q => ?_)
  · refine g_iconst (pc := 1565) (v := 1) (dd d_Law_law_15 31 rfl) (by decide) ?_
    exact g_lawret F hQ ha h0 (by omega) (by omega)
  · have ht5 : 5 * t + 5 ≤ L := by
      have e1 : (Int32.ofNat L).toInt = (L : Int) := nI_toInt (by omega)
      simp only [Int32.lt_iff_toInt_lt, nI_toInt (show 5 * t < 2 ^ 31 by omega), Int32.toInt_sub, e1, Int32.reduceToInt, Int.bmod_def] at q
      split at q <;> omega
    have back : ∀ (k' c' : Nat) (σ2 : St), k' ≤ k + 8 → c' ≤ c + 400 → S (t + 1) σ2 → GG Δ m_Law_law Γ NN k' c' σ2 1559 (lvL Δ b (nI (5 * t))) [] := fun k' c' σ2 hk' hc' hS2 => by
      refine g_iincW (pc := 1559) (w := 5) (dd d_Law_law_15 29 rfl) rfl (by decide) (by decide) ?_
      refine g_goto (pc := 1562) (tgt := 23) (dd d_Law_law_15 30 rfl) (by decide) ?_
      have a1 : L + 5 ≤ 5 * (t + 1) + (d - 5) := by omega
      have a2 : 5 * (t + 1) ≤ L := by omega
      have a3 : k' ≤ 1000 + 8 * (t + 1) := by omega
      have a4 : c' ≤ 100000 + 400 * (t + 1) := by omega
      have a5 : d - 5 < d := by omega
      have h := ih (d - 5) a5 (t + 1) k' c' σ2 hS2 a1 a2 a3 a4
      have e : nI (5 * (t + 1)) = nI (5 * t) + 5 := by
        show Int32.ofNat (5 * t + 5) = _
        rw [Int32.ofNat_add]
        rfl
      rw [e] at h
      exact h
    have hf : k + 8 ≤ room_1.cells ∧ c + 400 ≤ room_1.slots := by
      show k + 8 ≤ 601024 ∧ c + 400 ≤ 7293034
      omega
    obtain ⟨hM, D0, D1, D2, D3, D4, D5, D6, D7, D8, D9, D10, D11, D12, D13, D14, D15, D16, D17, D18, D19, D20, D21, D22, D23, D24, D25, D26, D27⟩ := hD
    refine g_aload_n (pc := 32) (dd d_Law_law 19 rfl) rfl ?_
    refine g_iload (pc := 33) (dd d_Law_law 20 rfl) rfl ?_
    refine g_sld (pc := 35) hX hbl hbA (nI_in (by omega) (by omega)) (dd d_Law_law 21 rfl) ?_
    refine g_bipush (pc := 36) (v := 31) (dd d_Law_law 22 rfl) (by decide) ?_
    refine g_iand (pc := 38) (dd d_Law_law 23 rfl) ?_
    refine g_tableC (pc := 39) (dd d_Law_law 24 rfl) (fun i off ho w => ?_) (by decide) (fun w => ⟨1559, by decide, ?_⟩)
    · rcases i with _ | _ | _ | _ | _ | _ | _ | _ | _ | _ | _ | _ | _ | _ | _ | _ | _ | _ | _ | _ | _ | _ | _ | _ | _ | _ | _ | _ | i
      · obtain rfl : off = 125 := (Option.some.inj ho).symm
        exact ⟨164, by decide, lc_put F D0 hS ht5 hf (fun σ2 h2 => back _ _ σ2 (Nat.le_refl _) (Nat.le_refl _) h2)⟩
      · obtain rfl : off = 181 := (Option.some.inj ho).symm
        exact ⟨220, by decide, lc_end F D1 hS ht5 hf (fun σ2 h2 => back _ _ σ2 (Nat.le_refl _) (Nat.le_refl _) h2)⟩
      · obtain rfl : off = 217 := (Option.some.inj ho).symm
        exact ⟨256, by decide, lc_policy F D2 hS ht5 hf (fun σ2 h2 => back _ _ σ2 (Nat.le_refl _) (Nat.le_refl _) h2)⟩
      · obtain rfl : off = 230 := (Option.some.inj ho).symm
        exact ⟨269, by decide, lc_image F D3 hS ht5 hf (fun σ2 h2 => back _ _ σ2 (Nat.le_refl _) (Nat.le_refl _) h2)⟩
      · obtain rfl : off = 243 := (Option.some.inj ho).symm
        exact ⟨282, by decide, lc_listing F D4 hS ht5 hf (fun σ2 h2 => back _ _ σ2 (Nat.le_refl _) (Nat.le_refl _) h2)⟩
      · obtain rfl : off = 311 := (Option.some.inj ho).symm
        exact ⟨350, by decide, lc_codeOf F D5 hS ht5 hf (fun σ2 h2 => back _ _ σ2 (Nat.le_refl _) (Nat.le_refl _) h2)⟩
      · obtain rfl : off = 379 := (Option.some.inj ho).symm
        exact ⟨418, by decide, lc_begin F D6 hS ht5 hf (fun σ2 h2 => back _ _ σ2 (Nat.le_refl _) (Nat.le_refl _) h2)⟩
      · obtain rfl : off = 402 := (Option.some.inj ho).symm
        exact ⟨441, by decide, lc_code F D7 hS ht5 hf (fun σ2 h2 => back _ _ σ2 (Nat.le_refl _) (Nat.le_refl _) h2)⟩
      · obtain rfl : off = 462 := (Option.some.inj ho).symm
        exact ⟨501, by decide, lc_word F D8 hS ht5 hf (fun σ2 h2 => back _ _ σ2 (Nat.le_refl _) (Nat.le_refl _) h2)⟩
      · obtain rfl : off = 534 := (Option.some.inj ho).symm
        exact ⟨573, by decide, lc_register F D9 hS ht5 hf (fun σ2 h2 => back _ _ σ2 (Nat.le_refl _) (Nat.le_refl _) h2)⟩
      · obtain rfl : off = 594 := (Option.some.inj ho).symm
        exact ⟨633, by decide, lc_input F D10 hS ht5 hf (fun σ2 h2 => back _ _ σ2 (Nat.le_refl _) (Nat.le_refl _) h2)⟩
      · obtain rfl : off = 662 := (Option.some.inj ho).symm
        exact ⟨701, by decide, lc_run F D11 hS ht5 hf (fun σ2 h2 => back _ _ σ2 (Nat.le_refl _) (Nat.le_refl _) h2)⟩
      · obtain rfl : off = 718 := (Option.some.inj ho).symm
        exact ⟨757, by decide, lc_state F D12 hS ht5 hf (fun σ2 h2 => back _ _ σ2 (Nat.le_refl _) (Nat.le_refl _) h2)⟩
      · obtain rfl : off = 774 := (Option.some.inj ho).symm
        exact ⟨813, by decide, lc_registerOf F D13 hS ht5 hf (fun σ2 h2 => back _ _ σ2 (Nat.le_refl _) (Nat.le_refl _) h2)⟩
      · obtain rfl : off = 842 := (Option.some.inj ho).symm
        exact ⟨881, by decide, lc_wordOf F D14 hS ht5 hf (fun σ2 h2 => back _ _ σ2 (Nat.le_refl _) (Nat.le_refl _) h2)⟩
      · obtain rfl : off = 910 := (Option.some.inj ho).symm
        exact ⟨949, by decide, lc_output F D15 hS ht5 hf (fun σ2 h2 => back _ _ σ2 (Nat.le_refl _) (Nat.le_refl _) h2)⟩
      · obtain rfl : off = 966 := (Option.some.inj ho).symm
        exact ⟨1005, by decide, lc_pairOf F D16 hS ht5 hf (fun σ2 h2 => back _ _ σ2 (Nat.le_refl _) (Nat.le_refl _) h2)⟩
      · obtain rfl : off = 1034 := (Option.some.inj ho).symm
        exact ⟨1073, by decide, lc_names F D17 hS ht5 hf (fun σ2 h2 => back _ _ σ2 (Nat.le_refl _) (Nat.le_refl _) h2)⟩
      · obtain rfl : off = 1090 := (Option.some.inj ho).symm
        exact ⟨1129, by decide, lc_blame F D18 hS ht5 hf (fun σ2 h2 => back _ _ σ2 (Nat.le_refl _) (Nat.le_refl _) h2)⟩
      · obtain rfl : off = 1103 := (Option.some.inj ho).symm
        exact ⟨1142, by decide, lc_journal F D19 hS ht5 hf (fun σ2 h2 => back _ _ σ2 (Nat.le_refl _) (Nat.le_refl _) h2)⟩
      · obtain rfl : off = 1171 := (Option.some.inj ho).symm
        exact ⟨1210, by decide, lc_count F D20 hS ht5 hf (fun σ2 h2 => back _ _ σ2 (Nat.le_refl _) (Nat.le_refl _) h2)⟩
      · obtain rfl : off = 1239 := (Option.some.inj ho).symm
        exact ⟨1278, by decide, lc_cacheOf F D21 hS ht5 hf (fun σ2 h2 => back _ _ σ2 (Nat.le_refl _) (Nat.le_refl _) h2)⟩
      · obtain rfl : off = 1307 := (Option.some.inj ho).symm
        exact ⟨1346, by decide, lc_keep F D22 hS ht5 hf (fun σ2 h2 => back _ _ σ2 (Nat.le_refl _) (Nat.le_refl _) h2)⟩
      · obtain rfl : off = 1318 := (Option.some.inj ho).symm
        exact ⟨1357, by decide, lc_differ F D23 hS ht5 hf (fun σ2 h2 => back _ _ σ2 (Nat.le_refl _) (Nat.le_refl _) h2)⟩
      · obtain rfl : off = 1386 := (Option.some.inj ho).symm
        exact ⟨1425, by decide, lc_witness F D24 hS ht5 hf (fun σ2 h2 => back _ _ σ2 (Nat.le_refl _) (Nat.le_refl _) h2)⟩
      · obtain rfl : off = 1442 := (Option.some.inj ho).symm
        exact ⟨1481, by decide, lc_twin F D25 hS ht5 hf (fun σ2 h2 => back _ _ σ2 (Nat.le_refl _) (Nat.le_refl _) h2)⟩
      · obtain rfl : off = 1453 := (Option.some.inj ho).symm
        exact ⟨1492, by decide, lc_swap F D26 hS ht5 hf (fun σ2 h2 => back _ _ σ2 (Nat.le_refl _) (Nat.le_refl _) h2)⟩
      · obtain rfl : off = 1464 := (Option.some.inj ho).symm
        exact ⟨1503, by decide, lc_unlike F D27 hS ht5 hf (fun σ2 h2 => back _ _ σ2 (Nat.le_refl _) (Nat.le_refl _) h2)⟩
      · cases ho
    · exact back _ _ σ (by omega) (by omega) (hM _ _ hS)
