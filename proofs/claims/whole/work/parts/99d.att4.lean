/-! an attempt: the reference reads the instruction -/
def sttR (V : IM) : Int32 := if (V MO 82 : Int32) = 0 then (if (if (V MO 75 : Int32) = (11 : Int32) then 1 else (if (V MO 75 : Int32) = (12 : Int32) then 1 else 0) : Int32) = 0 then (if (V MO 75 : Int32) = (18 : Int32) then (if (V MO 45 : Int32) = 0 then 5 else 0) else 0) else (if (V MO 81 : Int32) = 0 then 2 else (if (V MO 75 : Int32) = (18 : Int32) then (if (V MO 45 : Int32) = 0 then 5 else 0) else 0))) else (V MO 82)
def tlR (n : Nat) (V : IM) : Option (Int32 × IM) := if (up V MO 50 (sttR V) MO 50 : Int32) = 0 then (if (up V MO 50 (sttR V) MO 75 : Int32) = (19 : Int32) then (Option.bind (f_Mod_make n (up V MO 50 (sttR V))) fun v34 => if (v34.1 : Int32) = 0 then (b_Mod_instruct_266 n (up v34.2 MO 50 4)) else (b_Mod_instruct_266 n v34.2)) else (b_Mod_instruct_266 n (up V MO 50 (sttR V)))) else (b_Mod_instruct_266 n (up V MO 50 (sttR V)))
theorem isW {x : Int32} {R : IM} : (inW x → f_Mod_isWord x R = some 1) ∧ (¬ inW x → f_Mod_isWord x R = some 0) := by
  have i96 : (95 : Int32) < x ↔ ¬ x < 96 := by
    rw [ti, ti]
    simp only [Int32.reduceToInt]
    omega
  refine ⟨fun ⟨h1, h2⟩ => ?_, fun h => ?_⟩
  · have c : ¬ (95 : Int32) < x := fun z => i96.mp z h2
    simp [f_Mod_isWord, f_Mod_in, h1, c, chk]
  · by_cases z : x < 0
    · simp [f_Mod_isWord, f_Mod_in, z, chk]
    · have c : (95 : Int32) < x := i96.mpr (fun y => h ⟨z, y⟩)
      simp [f_Mod_isWord, f_Mod_in, z, c, chk]
theorem inPC {pl : Nat} {R : IM} (h : R MO 42 = nI pl) (hpl : pl < 64) : f_Mod_in (R MO 42) 0 63 R = some 1 := by
  have c1 : ¬ nI pl < 0 := fun z => by have := (nlt (b := 0) (by omega) (by decide)).mp z; omega
  have c2 : ¬ (63 : Int32) < nI pl := fun z => by have := (nlt (a := 63) (by decide) (by omega)).mp z; omega
  rw [h]
  simp [f_Mod_in, c1, c2, chk]
theorem dcR {n pl kd a b c q : Nat} {R : IM} {v : Int32} (hpl : pl < 64) (hk : kd < 22) (hb : b < 8) (e42 : R MO 42 = nI pl) (ev : R A_code pl = v) (ek : v &&& 31 = nI kd) (ea : (v >>> ((5 : Int32) &&& 31)) &&& 7 = nI a) (eb : (v >>> ((8 : Int32) &&& 31)) &&& 7 = nI b) (ec : (v >>> ((11 : Int32) &&& 31)) &&& 7 = nI c) (er : R A_ruleOf kd = nI q) (hq : q < 602) : ∃ R3, f_Mod_instruct n R = Option.bind (f_Mod_ask n R3) (tlR n) ∧ (∀ k, k ≠ MO → R3 k = R k) ∧ (∀ j, ¬ (75 ≤ j ∧ j ≤ 81) → R3 MO j = R MO j) ∧ R3 MO 75 = nI kd ∧ R3 MO 76 = nI a ∧ R3 MO 77 = nI b ∧ R3 MO 78 = nI c ∧ R3 MO 79 = v >>> ((16 : Int32) &&& 31) ∧ R3 MO 80 = R A_registers b + v >>> ((16 : Int32) &&& 31) ∧ (inW (R3 MO 80) → R3 MO 81 = 1) ∧ (¬ inW (R3 MO 80) → R3 MO 81 = 0) := by
  obtain ⟨R1, hR1⟩ : ∃ z, z = up (up (up (up (up R MO 75 (nI kd)) MO 76 (nI a)) MO 77 (nI b)) MO 78 (nI c)) MO 79 (v >>> ((16 : Int32) &&& 31)) := ⟨_, rfl⟩
  have r1b : ∀ k, k ≠ MO → R1 k = R k := fun k z => by rw [hR1, fu z, fu z, fu z, fu z, fu z]
  have r177 : R1 MO 77 = nI b := by rw [hR1, up_ne (Or.inr (by decide)), up_ne (Or.inr (by decide)), up_self]
  have r179 : R1 MO 79 = v >>> ((16 : Int32) &&& 31) := by rw [hR1, up_self]
  obtain ⟨R2, hR2⟩ : ∃ z, z = up R1 MO 80 (R A_registers b + v >>> ((16 : Int32) &&& 31)) := ⟨_, rfl⟩
  have r280 : R2 MO 80 = R A_registers b + v >>> ((16 : Int32) &&& 31) := by rw [hR2, up_self]
  obtain ⟨w, hw, hw1, hw0⟩ : ∃ w : Int32, f_Mod_isWord (R2 MO 80) R2 = some w ∧ (inW (R2 MO 80) → w = 1) ∧ (¬ inW (R2 MO 80) → w = 0) := by
    by_cases z : inW (R2 MO 80)
    · exact ⟨1, isW.1 z, fun _ => rfl, fun y => absurd z y⟩
    · exact ⟨0, isW.2 z, fun y => absurd y z, fun _ => rfl⟩
  have w01 : w = 0 ∨ w = 1 := by
    by_cases z : inW (R2 MO 80)
    · exact Or.inr (hw1 z)
    · exact Or.inl (hw0 z)
  have m3 : ∀ j, j ≠ 81 → up R2 MO 81 w MO j = R2 MO j := fun j z => up_ne (Or.inr z)
  have m2 : ∀ j, j ≠ 80 → R2 MO j = R1 MO j := fun j z => by rw [hR2, up_ne (Or.inr z)]
  refine ⟨up R2 MO 81 w, ?_, fun k z => by rw [fu z, hR2, fu z, r1b k z], fun j z => ?_, ?_, ?_, ?_, ?_, ?_, ?_, fun z => ?_, fun z => ?_⟩
  · rw [f_Mod_instruct, inPC e42 hpl, Option.bind_some, if_neg (by decide), e42, chk_i (nki hpl (by decide)), nkc (by omega), ev, b_Mod_instruct_28, lt, ek, up_self, if_neg (by decide), if_neg (show ¬ (22 : Int32) ≤ nI kd from nk (N := 22) hk (by decide)), chk_i (nki (by omega) (by decide)), nkc (by omega), up_o (show A_ruleOf ≠ MO by decide), er, if_pos (nge (by omega)), ea, eb, ec]
    simp only [lt]
    rw [← hR1, r177, chk_i (nki hb (by decide)), nkc (by omega), r1b A_registers (by decide), r179, ← hR2, hw, Option.bind_some, chk_i w01]
    rfl
  · rw [m3 j (by omega), m2 j (by omega), hR1, up_ne (Or.inr (by omega)), up_ne (Or.inr (by omega)), up_ne (Or.inr (by omega)), up_ne (Or.inr (by omega)), up_ne (Or.inr (by omega))]
  · rw [m3 75 (by decide), m2 75 (by decide), hR1, up_ne (Or.inr (by decide)), up_ne (Or.inr (by decide)), up_ne (Or.inr (by decide)), up_ne (Or.inr (by decide)), up_self]
  · rw [m3 76 (by decide), m2 76 (by decide), hR1, up_ne (Or.inr (by decide)), up_ne (Or.inr (by decide)), up_ne (Or.inr (by decide)), up_self]
  · rw [m3 77 (by decide), m2 77 (by decide), r177]
  · rw [m3 78 (by decide), m2 78 (by decide), hR1, up_ne (Or.inr (by decide)), up_self]
  · rw [m3 79 (by decide), m2 79 (by decide), r179]
  · rw [m3 80 (by decide), r280]
  · rw [up_self]; rw [m3 80 (by decide)] at z; exact hw1 z
  · rw [up_self]; rw [m3 80 (by decide)] at z; exact hw0 z
/-- the reference finds no rule -/
theorem dcN {n pl kx : Nat} {R : IM} {v : Int32} (hpl : pl < 64) (hk : kx < 32) (e42 : R MO 42 = nI pl) (ev : R A_code pl = v) (ek : v &&& 31 = nI kx) (hr : ¬ kx < 22 ∨ R A_ruleOf kx = -1) : f_Mod_instruct n R = Option.bind (f_Mod_noteAt (nI pl) (nI kx) 0 0 (up (up R MO 75 (nI kx)) MO 50 2)) fun z => some (0, z) := by
  have e62 : b_Mod_instruct_62 n 1 (up R MO 75 (nI kx)) = Option.bind (f_Mod_noteAt (nI pl) (nI kx) 0 0 (up (up R MO 75 (nI kx)) MO 50 2)) fun z => some (0, z) := by
    rw [b_Mod_instruct_62, lt, if_neg (by decide), f_Mod_note, up_ne (Or.inr (show 42 ≠ 50 by decide)), up_ne (Or.inr (show 42 ≠ 75 by decide)), e42, up_ne (Or.inr (show 75 ≠ 50 by decide)), up_self]
    cases f_Mod_noteAt (nI pl) (nI kx) 0 0 (up (up R MO 75 (nI kx)) MO 50 2) <;> rfl
  rw [f_Mod_instruct, inPC e42 hpl, Option.bind_some, if_neg (by decide), e42, chk_i (nki hpl (by decide)), nkc (by omega), ev, b_Mod_instruct_28, lt, ek, up_self, if_neg (by decide)]
  by_cases z : kx < 22
  · rcases hr with hr | hr
    · exact absurd z hr
    · rw [if_neg (show ¬ (22 : Int32) ≤ nI kx from nk (N := 22) z (by decide)), chk_i (nki (by omega) (by decide)), nkc (by omega), up_o (show A_ruleOf ≠ MO by decide), hr, if_neg (by decide), e62]
  · rw [if_pos (show (22 : Int32) ≤ nI kx from (nle (a := 22) (by decide) (by omega)).mpr (by omega)), e62]
theorem dcP {n : Nat} {R : IM} (hp : ¬ ∃ pl, pl < 64 ∧ R MO 42 = nI pl) : f_Mod_instruct n R = Option.bind (f_Mod_noteAt (R MO 42) (-1) 0 0 (up (up R MO 75 0) MO 50 2)) fun z => some (0, z) := by
  have e0 : f_Mod_in (R MO 42) 0 63 R = some 0 := by
    by_cases c1 : R MO 42 < 0
    · simp [f_Mod_in, c1, chk]
    · have c2 : (63 : Int32) < R MO 42 := by
        have e := nof c1
        have e2 := nat_of c1
        rw [ti]
        simp only [Int32.reduceToInt]
        by_cases z : (R MO 42).toNatClampNeg < 64
        · exact absurd ⟨_, z, e⟩ hp
        · omega
      simp [f_Mod_in, c1, c2, chk]
  rw [f_Mod_instruct, e0, Option.bind_some, if_pos rfl, b_Mod_instruct_28, lt, if_pos rfl, b_Mod_instruct_62, lt, if_pos rfl, f_Mod_note, up_ne (Or.inr (show 42 ≠ 50 by decide)), up_ne (Or.inr (show 42 ≠ 75 by decide))]
  show (Option.bind (Option.bind (f_Mod_noteAt (R MO 42) (-1) 0 0 (up (up R MO 75 0) MO 50 2)) fun v1 => some v1) fun v57 => some (0, v57)) = _
  cases f_Mod_noteAt (R MO 42) (-1) 0 0 (up (up R MO 75 0) MO 50 2) <;> rfl
