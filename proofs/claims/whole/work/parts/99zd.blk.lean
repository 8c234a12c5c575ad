/-! policy: a block of codes, wherever it stands; a jump's value is how far it goes -/
abbrev CIt : Type := Int32 × Int32
def rfV (d : CIt) (j : Nat) : Int32 := if d.1 = 302 ∨ d.1 = 303 then nI j + d.2 else d.2
def clX (d : CIt) (j : Nat) : Int32 := if d.1 = 300 then d.2 else if 500 ≤ d.1 then d.1 - 500 else if d.1 = 302 then nI j + d.2 else if d.1 = 303 then nI j + d.2 else 0
def BL (P : Nat → CIt → Prop) : Nat → List CIt → Prop
  | _, [] => True
  | L, d :: ds => P L d ∧ BL P (L + 1) ds
theorem BL_app {P : Nat → CIt → Prop} : ∀ {L : Nat} {ds es : List CIt}, BL P L (ds ++ es) ↔ BL P L ds ∧ BL P (L + ds.length) es
  | L, [], es => by simp [BL]
  | L, d :: ds, es => by
    have := BL_app (P := P) (L := L + 1) (ds := ds) (es := es)
    rw [List.cons_append, BL, BL, this, List.length_cons, show L + 1 + ds.length = L + (ds.length + 1) by omega, and_assoc]
theorem BL_m {P Q : Nat → CIt → Prop} : ∀ {L : Nat} {ds : List CIt}, (∀ j d, L ≤ j → j < L + ds.length → P j d → Q j d) → BL P L ds → BL Q L ds
  | L, [], _, _ => trivial
  | L, d :: ds, h, ⟨a, b⟩ => ⟨h L d (Nat.le_refl _) (by rw [List.length_cons]; omega) a, BL_m (fun j e h1 h2 => h j e (by omega) (by rw [List.length_cons]; omega)) b⟩
theorem BL_g {P : Nat → CIt → Prop} : ∀ {L : Nat} {ds : List CIt}, BL P L ds → ∀ i, i < ds.length → P (L + i) (ds.getD i (0, 0))
  | L, [], _, i, hi => by simp at hi
  | L, d :: ds, ⟨a, b⟩, 0, _ => a
  | L, d :: ds, ⟨a, b⟩, i + 1, hi => by
    have := BL_g b i (by rw [List.length_cons] at hi; omega)
    rw [show L + (i + 1) = L + 1 + i by omega]
    exact this
theorem BL_1 {P : Nat → CIt → Prop} {L : Nat} {d : CIt} (h : P L d) : BL P L [d] := ⟨h, trivial⟩
/-- an item, where the heights before it and behind it are known; e is the block's end -/
def OKi (m : Int32) (ds : List CIt) (dp : Nat → Nat) (i : Nat) : Prop := ((ds.getD i (0, 0)).1 = 300 ∧ dp (i + 1) = dp i + 1) ∨ (∃ k, k < 15 ∧ (ds.getD i (0, 0)).1 = nI (500 + k) ∧ tbi m k ∧ dp (i + 1) = dp i + 1) ∨ ((ds.getD i (0, 0)).1 ∈ ([33, 126, 301, 311, 312, 313] : List Int32) ∧ 1 ≤ dp i ∧ dp (i + 1) = dp i) ∨ ((ds.getD i (0, 0)).1 ∈ ([38, 43, 45, 60, 94, 124, 202, 203, 204] : List Int32) ∧ 2 ≤ dp i ∧ dp (i + 1) + 1 = dp i) ∨ ((ds.getD i (0, 0)).1 = 310 ∧ tbi m 15 ∧ 2 ≤ dp i ∧ dp (i + 1) + 1 = dp i) ∨ (∃ e, (ds.getD i (0, 0)) = (303, nI e) ∧ 0 < e ∧ i + e ≤ ds.length ∧ dp i = dp (i + 1) + 1 ∧ dp (i + e) = dp (i + 1)) ∨ (∃ e, (ds.getD i (0, 0)) = (302, nI e) ∧ 0 < e ∧ i + e ≤ ds.length ∧ dp (i + e) = dp i)
/-- a block that goes from height b to height e, never above M -/
def HT (m : Int32) (M b e : Nat) (ds : List CIt) : Prop := ∃ dp : Nat → Nat, dp 0 = b ∧ dp ds.length = e ∧ (∀ i, i ≤ ds.length → dp i ≤ M) ∧ ∀ i, i < ds.length → OKi m ds dp i
theorem HT_M {m : Int32} {M M' b e : Nat} {ds : List CIt} (hM : M ≤ M') (h : HT m M b e ds) : HT m M' b e ds := by
  obtain ⟨dp, a, b, c, d⟩ := h
  exact ⟨dp, a, b, fun i hi => Nat.le_trans (c i hi) hM, d⟩
theorem OKi_m {m m' : Int32} {ds : List CIt} {dp : Nat → Nat} {i : Nat} (hm : ∀ k, k < 17 → tbi m k → tbi m' k) (h : OKi m ds dp i) : OKi m' ds dp i := by
  rcases h with h | ⟨k, h1, h2, h3, h4⟩ | h | h | ⟨h1, h2, h3⟩ | h | h
  · exact Or.inl h
  · exact Or.inr (Or.inl ⟨k, h1, h2, hm k (by omega) h3, h4⟩)
  · exact Or.inr (Or.inr (Or.inl h))
  · exact Or.inr (Or.inr (Or.inr (Or.inl h)))
  · exact Or.inr (Or.inr (Or.inr (Or.inr (Or.inl ⟨h1, hm 15 (by decide) h2, h3⟩))))
  · exact Or.inr (Or.inr (Or.inr (Or.inr (Or.inr (Or.inl h)))))
  · exact Or.inr (Or.inr (Or.inr (Or.inr (Or.inr (Or.inr h)))))
theorem HT_m {m m' : Int32} {M b e : Nat} {ds : List CIt} (hm : ∀ k, k < 17 → tbi m k → tbi m' k) (h : HT m M b e ds) : HT m' M b e ds := by
  obtain ⟨dp, a, b, c, d⟩ := h
  exact ⟨dp, a, b, c, fun i hi => OKi_m hm (d i hi)⟩
/-- the same block, higher -/
theorem HT_s {m : Int32} {M b e h : Nat} {ds : List CIt} (hh : HT m M b e ds) : HT m (M + h) (b + h) (e + h) ds := by
  obtain ⟨dp, a, b, c, d⟩ := hh
  refine ⟨fun i => dp i + h, by dsimp only; omega, by dsimp only; omega, fun i hi => by have := c i hi; dsimp only; omega, fun i hi => ?_⟩
  rcases d i hi with g | ⟨k, g1, g2, g3, g4⟩ | ⟨g1, g2, g3⟩ | ⟨g1, g2, g3⟩ | ⟨g1, g2, g3, g4⟩ | ⟨k, g1, g2, g3, g4, g5⟩ | ⟨k, g1, g2, g3, g4⟩
  · exact Or.inl ⟨g.1, by have := g.2; dsimp only; omega⟩
  · exact Or.inr (Or.inl ⟨k, g1, g2, g3, by dsimp only; omega⟩)
  · exact Or.inr (Or.inr (Or.inl ⟨g1, by dsimp only; omega, by dsimp only; omega⟩))
  · exact Or.inr (Or.inr (Or.inr (Or.inl ⟨g1, by dsimp only; omega, by dsimp only; omega⟩)))
  · exact Or.inr (Or.inr (Or.inr (Or.inr (Or.inl ⟨g1, g2, by dsimp only; omega, by dsimp only; omega⟩))))
  · exact Or.inr (Or.inr (Or.inr (Or.inr (Or.inr (Or.inl ⟨k, g1, g2, g3, by dsimp only; omega, by dsimp only; omega⟩)))))
  · exact Or.inr (Or.inr (Or.inr (Or.inr (Or.inr (Or.inr ⟨k, g1, g2, g3, by dsimp only; omega⟩)))))
theorem gA {ds es : List CIt} {i : Nat} (h : i < ds.length) : (ds ++ es).getD i (0, 0) = ds.getD i (0, 0) := by
  rw [List.getD_eq_getElem?_getD, List.getD_eq_getElem?_getD, List.getElem?_append_left h]
theorem gB {ds es : List CIt} {i : Nat} (h : ds.length ≤ i) : (ds ++ es).getD i (0, 0) = es.getD (i - ds.length) (0, 0) := by
  rw [List.getD_eq_getElem?_getD, List.getD_eq_getElem?_getD, List.getElem?_append_right h]
/-- an item seen in a longer block -/
theorem OKi_l {m : Int32} {ds es : List CIt} {dp dq : Nat → Nat} {i : Nat} (hi : i < ds.length) (hq : ∀ j, j ≤ ds.length → dq j = dp j) (h : OKi m ds dp i) : OKi m (ds ++ es) dq i := by
  unfold OKi at h ⊢
  rw [gA hi, hq i (by omega), hq (i + 1) (by omega), List.length_append]
  rcases h with h | h | h | h | h | ⟨k, h1, h2, h3, h4, h5⟩ | ⟨k, h1, h2, h3, h4⟩
  · exact Or.inl h
  · exact Or.inr (Or.inl h)
  · exact Or.inr (Or.inr (Or.inl h))
  · exact Or.inr (Or.inr (Or.inr (Or.inl h)))
  · exact Or.inr (Or.inr (Or.inr (Or.inr (Or.inl h))))
  · exact Or.inr (Or.inr (Or.inr (Or.inr (Or.inr (Or.inl ⟨k, h1, h2, by omega, h4, by rw [hq _ (by omega)]; exact h5⟩)))))
  · exact Or.inr (Or.inr (Or.inr (Or.inr (Or.inr (Or.inr ⟨k, h1, h2, by omega, by rw [hq _ (by omega)]; exact h4⟩)))))
theorem OKi_r {m : Int32} {ds es : List CIt} {dp dq : Nat → Nat} {i : Nat} (hi : i < es.length) (hq : ∀ j, j ≤ es.length → dq (ds.length + j) = dp j) (h : OKi m es dp i) : OKi m (ds ++ es) dq (ds.length + i) := by
  unfold OKi at h ⊢
  rw [gB (by omega), show ds.length + i - ds.length = i by omega, hq i (by omega), show ds.length + i + 1 = ds.length + (i + 1) by omega, hq (i + 1) (by omega), List.length_append]
  rcases h with h | h | h | h | h | ⟨k, h1, h2, h3, h4, h5⟩ | ⟨k, h1, h2, h3, h4⟩
  · exact Or.inl h
  · exact Or.inr (Or.inl h)
  · exact Or.inr (Or.inr (Or.inl h))
  · exact Or.inr (Or.inr (Or.inr (Or.inl h)))
  · exact Or.inr (Or.inr (Or.inr (Or.inr (Or.inl h))))
  · exact Or.inr (Or.inr (Or.inr (Or.inr (Or.inr (Or.inl ⟨k, h1, h2, by omega, h4, by rw [show ds.length + i + k = ds.length + (i + k) by omega, hq _ (by omega)]; exact h5⟩)))))
  · exact Or.inr (Or.inr (Or.inr (Or.inr (Or.inr (Or.inr ⟨k, h1, h2, by omega, by rw [show ds.length + i + k = ds.length + (i + k) by omega, hq _ (by omega)]; exact h4⟩)))))
/-- one block behind another -/
theorem HT_a {m : Int32} {M b e g : Nat} {ds es : List CIt} (h1 : HT m M b e ds) (h2 : HT m M e g es) : HT m M b g (ds ++ es) := by
  obtain ⟨dp, a1, a2, a3, a4⟩ := h1
  obtain ⟨dq, b1, b2, b3, b4⟩ := h2
  obtain ⟨dr, hr⟩ : ∃ dr : Nat → Nat, dr = fun i => if i ≤ ds.length then dp i else dq (i - ds.length) := ⟨_, rfl⟩
  have r1 : ∀ j, j ≤ ds.length → dr j = dp j := fun j hj => by rw [hr]; exact if_pos hj
  have r2 : ∀ j, dr (ds.length + j) = dq j := fun j => by
    by_cases z : j = 0
    · rw [z, Nat.add_zero, r1 _ (Nat.le_refl _), a2, b1]
    · rw [hr]
      show (if ds.length + j ≤ ds.length then _ else _) = _
      rw [if_neg (by omega), show ds.length + j - ds.length = j by omega]
  refine ⟨dr, by rw [r1 0 (by omega)]; exact a1, by rw [List.length_append, r2]; exact b2, fun i hi => ?_, fun i hi => ?_⟩
  · rw [List.length_append] at hi
    by_cases z : i ≤ ds.length
    · rw [r1 i z]; exact a3 i z
    · rw [show i = ds.length + (i - ds.length) by omega, r2]; exact b3 _ (by omega)
  · rw [List.length_append] at hi
    by_cases z : i < ds.length
    · exact OKi_l z r1 (a4 i z)
    · rw [show i = ds.length + (i - ds.length) by omega]
      exact OKi_r (by omega) (fun j _ => r2 j) (b4 _ (by omega))
theorem HT_1 {m : Int32} {M b e : Nat} {d : CIt} (hb : b ≤ M) (he : e ≤ M) (h : OKi m [d] (fun i => if i = 0 then b else e) 0) : HT m M b e [d] := by
  refine ⟨fun i => if i = 0 then b else e, rfl, rfl, fun i hi => ?_, fun i hi => ?_⟩
  · dsimp only
    split <;> omega
  · have : i = 0 := by simp at hi; exact hi
    subst this
    exact h
theorem HT_n {m : Int32} {M b : Nat} {v : Int32} (h : b + 1 ≤ M) : HT m M b (b + 1) [(300, v)] := HT_1 (by omega) h (Or.inl ⟨rfl, rfl⟩)
theorem HT_nm {m : Int32} {M b k : Nat} {v : Int32} (hk : k < 15) (hm : tbi m k) (h : b + 1 ≤ M) : HT m M b (b + 1) [(nI (500 + k), v)] := HT_1 (by omega) h (Or.inr (Or.inl ⟨k, hk, rfl, hm, rfl⟩))
theorem HT_u {m : Int32} {M b : Nat} {c v : Int32} (hc : c ∈ ([33, 126, 301, 311, 312, 313] : List Int32)) (h1 : 1 ≤ b) (h : b ≤ M) : HT m M b b [(c, v)] := HT_1 h h (Or.inr (Or.inr (Or.inl ⟨hc, h1, rfl⟩)))
theorem HT_b {m : Int32} {M b : Nat} {c v : Int32} (hc : c ∈ ([38, 43, 45, 60, 94, 124, 202, 203, 204] : List Int32)) (h : b + 2 ≤ M) : HT m M (b + 2) (b + 1) [(c, v)] := HT_1 h (by omega) (Or.inr (Or.inr (Or.inr (Or.inl ⟨hc, by show 2 ≤ b + 2; omega, rfl⟩))))
theorem HT_p {m : Int32} {M b : Nat} {v : Int32} (hm : tbi m 15) (h : b + 2 ≤ M) : HT m M (b + 2) (b + 1) [(310, v)] := HT_1 h (by omega) (Or.inr (Or.inr (Or.inr (Or.inr (Or.inl ⟨rfl, hm, by show 2 ≤ b + 2; omega, rfl⟩)))))
/-- a choice -/
theorem HT_c {m : Int32} {M : Nat} {ds es : List CIt} (hM : 1 ≤ M) (h1 : HT m M 0 1 ds) (h2 : HT m M 0 1 es) : HT m M 1 1 ((303, nI (ds.length + 2)) :: (ds ++ (302, nI (es.length + 1)) :: es)) := by
  obtain ⟨dp, a1, a2, a3, a4⟩ := h1
  obtain ⟨dq, b1, b2, b3, b4⟩ := h2
  obtain ⟨l, hl⟩ : ∃ l, l = ds.length := ⟨_, rfl⟩
  obtain ⟨l2, hl2⟩ : ∃ l2, l2 = es.length := ⟨_, rfl⟩
  rw [← hl] at a2 a3 a4 ⊢
  rw [← hl2] at b2 b3 b4 ⊢
  obtain ⟨ws, hws⟩ : ∃ ws : List CIt, ws = (303, nI (l + 2)) :: (ds ++ (302, nI (l2 + 1)) :: es) := ⟨_, rfl⟩
  rw [← hws]
  have lw : ws.length = l + l2 + 2 := by rw [hws, List.length_cons, List.length_append, List.length_cons]; omega
  obtain ⟨dr, hr⟩ : ∃ dr : Nat → Nat, dr = fun i => if i = 0 then 1 else if i ≤ l + 1 then dp (i - 1) else dq (i - (l + 2)) := ⟨_, rfl⟩
  have r0 : dr 0 = 1 := by rw [hr]; rfl
  have r1 : ∀ j, j ≤ l → dr (1 + j) = dp j := fun j hj => by
    rw [hr]
    show (if 1 + j = 0 then _ else if 1 + j ≤ l + 1 then dp (1 + j - 1) else _) = _
    rw [if_neg (by omega), if_pos (by omega), show 1 + j - 1 = j by omega]
  have r2 : ∀ j, dr (l + 2 + j) = dq j := fun j => by
    rw [hr]
    show (if l + 2 + j = 0 then _ else if l + 2 + j ≤ l + 1 then _ else dq (l + 2 + j - (l + 2))) = _
    rw [if_neg (by omega), if_neg (by omega), show l + 2 + j - (l + 2) = j by omega]
  refine ⟨dr, r0, by rw [lw, show l + l2 + 2 = l + 2 + l2 by omega, r2]; exact b2, fun i hi => ?_, fun i hi => ?_⟩
  · rw [lw] at hi
    by_cases z0 : i = 0
    · rw [z0, r0]; exact hM
    by_cases z : i ≤ l + 1
    · rw [show i = 1 + (i - 1) by omega, r1 _ (by omega)]; exact a3 _ (by omega)
    · rw [show i = l + 2 + (i - (l + 2)) by omega, r2]; exact b3 _ (by omega)
  · rw [lw] at hi
    by_cases z0 : i = 0
    · subst z0
      refine Or.inr (Or.inr (Or.inr (Or.inr (Or.inr (Or.inl ⟨l + 2, by rw [hws]; rfl, by omega, by omega, ?_, ?_⟩)))))
      · rw [r0, show 0 + 1 = 1 + 0 by rfl, r1 0 (by omega), a1]
      · rw [show 0 + (l + 2) = l + 2 + 0 by omega, r2, b1, show 0 + 1 = 1 + 0 by rfl, r1 0 (by omega), a1]
    by_cases z : i < 1 + l
    · have e : ws = [(303, nI (l + 2))] ++ (ds ++ (302, nI (l2 + 1)) :: es) := by rw [hws]; rfl
      rw [e, show i = [((303 : Int32), nI (l + 2))].length + (i - 1) by simp; omega]
      refine OKi_r (dp := fun j => dr (1 + j)) ?_ (fun j _ => ?_) (OKi_l (dp := dp) (by omega) (fun j hj => r1 j (by omega)) (a4 (i - 1) (by omega)))
      · rw [List.length_append, ← hl]; omega
      · simp
    by_cases z1 : i = 1 + l
    · subst z1
      refine Or.inr (Or.inr (Or.inr (Or.inr (Or.inr (Or.inr ⟨l2 + 1, ?_, by omega, by omega, ?_⟩)))))
      · rw [hws, show 1 + l = l + 1 by omega]
        show (ds ++ (302, nI (l2 + 1)) :: es).getD l (0, 0) = _
        rw [gB (by omega), show l - ds.length = 0 by omega]
        rfl
      · rw [show 1 + l + (l2 + 1) = l + 2 + l2 by omega, r2, b2, r1 l (by omega), a2]
    · have e : ws = ((303, nI (l + 2)) :: (ds ++ [(302, nI (l2 + 1))])) ++ es := by rw [hws]; simp
      have le : ((303, nI (l + 2)) :: (ds ++ [((302 : Int32), nI (l2 + 1))])).length = l + 2 := by simp [hl]
      rw [e, show i = ((303, nI (l + 2)) :: (ds ++ [((302 : Int32), nI (l2 + 1))])).length + (i - (l + 2)) by rw [le]; omega]
      exact OKi_r (dp := dq) (by omega) (fun j _ => by rw [le]; exact r2 j) (b4 _ (by omega))
