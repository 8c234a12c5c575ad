/-! tokens: what a text is, sign by sign; d is the number of signs that are left -/
def isLe (x : Int32) : Prop := 97 ≤ x ∧ x ≤ 122
def isDi (x : Int32) : Prop := 48 ≤ x ∧ x ≤ 57
/-- blanks and remarks passed over: how many signs are left then -/
def pSk (T : Nat → Int32) (N : Nat) : Nat → Int32 → Nat
  | 0, _ => 0
  | d + 1, r => if T (N - (d + 1)) = 10 then pSk T N d 0 else if T (N - (d + 1)) = 35 then pSk T N d 1 else if T (N - (d + 1)) = 32 then pSk T N d r else if r = 0 then d + 1 else pSk T N d r
/-- the letters of a word, as numbers; what is left behind it -/
def pLw (T : Nat → Int32) (N : Nat) : Nat → List Nat
  | 0 => []
  | d + 1 => if 97 ≤ T (N - (d + 1)) ∧ T (N - (d + 1)) ≤ 122 then ((T (N - (d + 1))).toNatClampNeg - 96) :: pLw T N d else []
def pLr (T : Nat → Int32) (N : Nat) : Nat → Nat
  | 0 => 0
  | d + 1 => if 97 ≤ T (N - (d + 1)) ∧ T (N - (d + 1)) ≤ 122 then pLr T N d else d + 1
/-- a number's value by its first seven digits, and what is left -/
def pNv (T : Nat → Int32) (N : Nat) : Nat → Nat → Int32 → Int32 × Nat
  | 0, _, v => (v, 0)
  | d + 1, i, v => if 48 ≤ T (N - (d + 1)) ∧ T (N - (d + 1)) ≤ 57 then pNv T N d (i + 1) (if i < 7 then v * 10 + (T (N - (d + 1)) - 48) else v) else (v, d + 1)
/-- the fifty words, letter by letter -/
def wLs : List (List Nat) := [[8, 1, 12, 20], [3, 15, 14, 19, 20, 1, 14, 20], [13, 15, 22, 5], [1, 4, 4], [19, 21, 2, 20, 18, 1, 3, 20], [13, 21, 12, 20, 9, 16, 12, 25], [1, 14, 4], [15, 18], [24, 15, 18], [2, 5, 12, 15, 23], [12, 9, 11, 5], [12, 15, 1, 4], [19, 20, 15, 18, 5], [10, 21, 13, 16], [2, 18, 1, 14, 3, 8], [7, 15], [12, 9, 14, 11], [15, 21, 20], [9, 14], [13, 1, 11, 5], [4, 18, 15, 16], [13, 1, 18, 11], [16, 3], [1], [2], [3], [22, 1], [22, 2], [22, 3], [23], [15], [9], [14], [3, 15, 4, 5], [2, 5, 6, 15, 18, 5], [3, 12, 5, 1, 18], [6, 18, 5, 19, 8], [16, 1, 9, 18], [6, 9, 18, 19, 20], [19, 5, 3, 15, 14, 4], [2, 1, 19, 5], [14, 5, 5, 4], [20, 1, 7], [14, 5, 24, 20], [15, 23, 14, 5, 18], [1, 20], [23, 15, 18, 4], [18, 5, 7, 9, 19, 20, 5, 18], [9, 14, 16, 21, 20], [8, 5, 12, 4]]
def leN : List Nat → Nat
  | [] => 0
  | c :: cs => c + 32 * leN cs
/-- a word's number in the class's list; 102: no such word -/
def wix (ls : List Nat) : Nat := let k := wLs.findIdx (fun w => decide (w = ls)); if k < 50 then k else 102
/-- the reference's number of a token of the class -/
def m2r (c : Nat) : Nat := if c < 22 then c else if c < 37 then c + 8 else if c < 41 then c + 23 else if c < 45 then c + 9 else if c = 45 then 64 else if c = 46 then 65 else if c = 47 then 67 else if c = 48 then 68 else if c = 49 then 66 else if c = 100 then 199 else if c = 101 then 200 else if c = 102 then 201 else if c < 256 then c + 272 else if c = 317 then 202 else if c = 289 then 203 else 204
theorem wl_be : ∀ k, k < 50 → (leN (wLs.getD k []).reverse : Int) = (knw.getD k 0).toInt := by decide +kernel
theorem wl_le : ∀ k, k < 50 → (leN (wLs.getD k []) : Int) = (wdsL.getD (m2r k) 0).toInt := by decide +kernel
theorem wl_ok : ∀ k, k < 50 → (wLs.getD k []).length ≤ 8 ∧ (wLs.getD k []) ≠ [] ∧ ∀ c ∈ wLs.getD k [], 1 ≤ c ∧ c ≤ 26 := by decide +kernel
theorem wl_un : ∀ k, k < 50 → ∀ j, j < 50 → wLs.getD k [] = wLs.getD j [] → k = j := by decide +kernel
theorem leN_i : ∀ {xs ys : List Nat}, (∀ c ∈ xs, 1 ≤ c ∧ c ≤ 31) → (∀ c ∈ ys, 1 ≤ c ∧ c ≤ 31) → leN xs = leN ys → xs = ys
  | [], [], _, _, _ => rfl
  | [], y :: ys, _, hy, h => by
    have := hy y (List.mem_cons_self ..)
    simp only [leN] at h
    omega
  | x :: xs, [], hx, _, h => by
    have := hx x (List.mem_cons_self ..)
    simp only [leN] at h
    omega
  | x :: xs, y :: ys, hx, hy, h => by
    have a := hx x (List.mem_cons_self ..)
    have b := hy y (List.mem_cons_self ..)
    simp only [leN] at h
    have e : x = y := by omega
    have e2 : leN xs = leN ys := by omega
    rw [e, leN_i (fun c hc => hx c (List.mem_cons_of_mem _ hc)) (fun c hc => hy c (List.mem_cons_of_mem _ hc)) e2]
theorem wix_k {k : Nat} (hk : k < 50) : wix (wLs.getD k []) = k := by
  have : ∀ k, k < 50 → wix (wLs.getD k []) = k := by decide +kernel
  exact this k hk
theorem wix_s {ls : List Nat} : (wix ls = 102 ∧ ∀ k, k < 50 → wLs.getD k [] ≠ ls) ∨ (wix ls < 50 ∧ wLs.getD (wix ls) [] = ls) := by
  by_cases h : ∃ k, k < 50 ∧ wLs.getD k [] = ls
  · obtain ⟨k, hk, e⟩ := h
    refine Or.inr ?_
    rw [← e, wix_k hk]
    exact ⟨hk, rfl⟩
  · refine Or.inl ⟨?_, fun k hk e => h ⟨k, hk, e⟩⟩
    unfold wix
    have hl : wLs.length = 50 := rfl
    by_cases z : wLs.findIdx (fun w => decide (w = ls)) < 50
    · have z' : wLs.findIdx (fun w => decide (w = ls)) < wLs.length := by rw [hl]; exact z
      have := List.findIdx_getElem (w := z')
      have e : wLs[wLs.findIdx (fun w => decide (w = ls))] = ls := of_decide_eq_true this
      refine absurd ⟨_, z, ?_⟩ h
      rw [List.getD_eq_getElem?_getD, List.getElem?_eq_getElem z']
      exact e
    · show (if _ then _ else _) = 102
      rw [if_neg z]
