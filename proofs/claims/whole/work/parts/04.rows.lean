/-! the rows: one instruction each, over GG -/
section Rows
variable {Δ : Dx} {mi : MI} {Γ : Cx} {n k c : Nat} {σ : St} {pc : Nat} {lv : List (Option Value)} {rest : List Value}
theorem dd {cc : ByteArray} {t : List (Nat × Instr × Nat)} (h : Dc cc t) (i : Nat) {pc len : Nat} {ins : Instr} (hi : t[i]? = some (pc, ins, len)) : decode cc pc = .ok (ins, len) := h (pc, ins, len) (List.mem_of_getElem? hi)
theorem lvh_get {ls : Array Slot} {nL i : Nat} {v : Value} (h : lvh ls nL lv) (hi : lv[i]? = some (some v)) : ls[i]? = some (.val v) := h.2.2 i v hi
/-- the locals behind a store of one slot, of two -/
def lsp (lv : List (Option Value)) (i : Nat) : List (Option Value) := match i with
  | 0 => lv
  | j + 1 => match lv[j]? with
    | some (some (.long _)) => lv.set j none
    | some (some (.double _)) => lv.set j none
    | _ => lv
def ls1 (lv : List (Option Value)) (i : Nat) (v : Value) : List (Option Value) := (lsp lv i).set i (some v)
def ls2 (lv : List (Option Value)) (i : Nat) (v : Value) : List (Option Value) := (ls1 lv i v).set (i + 1) none
def toL (lv : List (Option Value)) : List (Nat × Value) := (List.range lv.length).filterMap (fun i => match lv[i]? with
  | some (some v) => some (i, v)
  | _ => none)
theorem toL_mem {i : Nat} {v : Value} : (i, v) ∈ toL lv ↔ lv[i]? = some (some v) := by
  unfold toL
  rw [List.mem_filterMap]
  constructor
  · rintro ⟨j, hj, e⟩
    split at e
    · next w hw =>
      cases e
      exact hw
    · cases e
  · intro h
    refine ⟨i, List.mem_range.mpr (List.getElem?_eq_some_iff.mp h).1, ?_⟩
    rw [h]
theorem lvh_iff {ls : Array Slot} {nL : Nat} : lvh ls nL lv ↔ lv_has ls nL (toL lv) := by
  constructor
  · rintro ⟨a, b, d⟩
    refine ⟨a, b, fun q hq => ?_⟩
    obtain ⟨i, v⟩ := q
    exact d i v (toL_mem.mp hq)
  · rintro ⟨a, b, d⟩
    exact ⟨a, b, fun i v h => d (i, v) (toL_mem.mpr h)⟩
theorem ls1_sub {i : Nat} {v : Value} : ∀ q ∈ toL (ls1 lv i v), q ∈ ((i, v) :: (toL lv).filter (fun q => !(q.1 == i) && !(q.1 + 1 == i && q.2.category == 2))) := by
  rintro ⟨j, w⟩ hq
  rw [toL_mem] at hq
  unfold ls1 at hq
  rw [List.getElem?_set] at hq
  by_cases ne : i = j
  · subst ne
    rw [if_pos rfl] at hq
    by_cases h9 : i < (lsp lv i).length
    · rw [if_pos h9] at hq
      cases hq
      exact List.mem_cons_self
    · rw [if_neg h9] at hq
      cases hq
  · rw [if_neg ne] at hq
    refine List.mem_cons_of_mem _ (List.mem_filter.mpr ?_)
    have key : lv[j]? = some (some w) ∧ (j + 1 = i → w.category ≠ 2) := by
      cases i with
      | zero => exact ⟨hq, fun h => absurd h (by omega)⟩
      | succ i' =>
        unfold lsp at hq
        dsimp only at hq
        split at hq
        · next x hx =>
          rw [List.getElem?_set] at hq
          split at hq
          · next e =>
            split at hq <;> cases hq
          · next ne2 => exact ⟨hq, fun h => absurd (Nat.succ.inj h).symm ne2⟩
        · next x hx =>
          rw [List.getElem?_set] at hq
          split at hq
          · next e =>
            split at hq <;> cases hq
          · next ne2 => exact ⟨hq, fun h => absurd (Nat.succ.inj h).symm ne2⟩
        · next h1 h2 =>
          refine ⟨hq, fun h => ?_⟩
          have e : j = i' := Nat.succ.inj h
          subst e
          cases w with
          | long z => exact absurd hq (h1 z)
          | double z => exact absurd hq (h2 z)
          | _ => exact fun h => by cases h
    refine ⟨toL_mem.mpr key.1, ?_⟩
    have e1 : (j == i) = false := by
      simp only [beq_eq_false_iff_ne]
      exact fun h => ne h.symm
    rw [Bool.and_eq_true]
    refine ⟨by simp only [e1, Bool.not_false], ?_⟩
    rw [Bool.not_eq_true', Bool.and_eq_false_iff]
    by_cases h : j + 1 = i
    · right
      simp only [beq_eq_false_iff_ne]
      exact key.2 h
    · left
      simp only [beq_eq_false_iff_ne]
      exact h
theorem lvh_1 {ls : Array Slot} {nL i : Nat} {v : Value} (h : lv_has ls nL ((i, v) :: (toL lv).filter (fun q => !(q.1 == i) && !(q.1 + 1 == i && q.2.category == 2)))) : lvh ls nL (ls1 lv i v) := by
  rw [lvh_iff]
  exact ⟨h.1, h.2.1, fun q hq => h.2.2 q (ls1_sub q hq)⟩
theorem ls2_sub {i : Nat} {v : Value} : ∀ q ∈ toL (ls2 lv i v), q ∈ ((i, v) :: (toL lv).filter (fun q => !(q.1 == i) && (!(q.1 == i + 1) && !(q.1 + 1 == i && q.2.category == 2)))) := by
  rintro ⟨j, w⟩ hq
  rw [toL_mem] at hq
  unfold ls2 at hq
  rw [List.getElem?_set] at hq
  split at hq
  · next e => split at hq <;> cases hq
  · next ne =>
    have h1 := ls1_sub (j, w) (toL_mem.mpr hq)
    rw [List.mem_cons] at h1 ⊢
    rcases h1 with h1 | h1
    · exact Or.inl h1
    · right
      rw [List.mem_filter] at h1 ⊢
      refine ⟨h1.1, ?_⟩
      have h2 := h1.2
      simp only [Bool.and_eq_true] at h2 ⊢
      refine ⟨h2.1, ?_, h2.2⟩
      rw [Bool.not_eq_true']
      simp only [beq_eq_false_iff_ne]
      exact fun h => ne h.symm
theorem lvh_2 {ls : Array Slot} {nL i : Nat} {v : Value} (h : lv_has ls nL ((i, v) :: (toL lv).filter (fun q => !(q.1 == i) && (!(q.1 == i + 1) && !(q.1 + 1 == i && q.2.category == 2))))) : lvh ls nL (ls2 lv i v) := by
  rw [lvh_iff]
  exact ⟨h.1, h.2.1, fun q hq => h.2.2 q (ls2_sub q hq)⟩
theorem g_iconst {z : Int} {v : Int32} (hdg : decode mi.2.1 pc = .ok (.iconst z, 1)) (hv : Int32.ofInt z = v) (kk : GG Δ mi Γ n k c σ (pc + 1) lv (.int v :: rest)) : GG Δ mi Γ n k c σ pc lv (rest) := fun ok H locs ls hP hS hl => lv_iconst ok.1 ok.2.1 hdg hv (kk ok H locs ls hP hS hl)
theorem g_bipush {z : Int} {v : Int32} (hdg : decode mi.2.1 pc = .ok (.bipush z, 2)) (hv : (Int8.ofInt z).toInt32 = v) (kk : GG Δ mi Γ n k c σ (pc + 2) lv (.int v :: rest)) : GG Δ mi Γ n k c σ pc lv (rest) := fun ok H locs ls hP hS hl => lv_bipush ok.1 ok.2.1 hdg hv (kk ok H locs ls hP hS hl)
theorem g_sipush {z : Int} {v : Int32} (hdg : decode mi.2.1 pc = .ok (.sipush z, 3)) (hv : (Int16.ofInt z).toInt32 = v) (kk : GG Δ mi Γ n k c σ (pc + 3) lv (.int v :: rest)) : GG Δ mi Γ n k c σ pc lv (rest) := fun ok H locs ls hP hS hl => lv_sipush ok.1 ok.2.1 hdg hv (kk ok H locs ls hP hS hl)
theorem g_lconst {z : Fin 2} {v : Int64} (hdg : decode mi.2.1 pc = .ok (.lconst z, 1)) (hv : Int64.ofNat (z : Nat) = v) (kk : GG Δ mi Γ n k c σ (pc + 1) lv (.long v :: rest)) : GG Δ mi Γ n k c σ pc lv (rest) := fun ok H locs ls hP hS hl => lv_lconst ok.1 ok.2.1 hdg hv (kk ok H locs ls hP hS hl)
theorem g_iload_n {z : Fin 4} {x : Int32} (hdg : decode mi.2.1 pc = .ok (.iload_n z, 1)) (hv : lv[z.val]? = some (some (.int x))) (kk : GG Δ mi Γ n k c σ (pc + 1) lv (.int x :: rest)) : GG Δ mi Γ n k c σ pc lv rest := fun ok H locs ls hP hS hl => lv_iload_n ok.1 ok.2.1 hdg rfl (lvh_get hl hv) (kk ok H locs ls hP hS hl)
theorem g_iload {z : Nat} {x : Int32} (hdg : decode mi.2.1 pc = .ok (.iload z, 2)) (hv : lv[z]? = some (some (.int x))) (kk : GG Δ mi Γ n k c σ (pc + 2) lv (.int x :: rest)) : GG Δ mi Γ n k c σ pc lv rest := fun ok H locs ls hP hS hl => lv_iload ok.1 ok.2.1 hdg (lvh_get hl hv) (kk ok H locs ls hP hS hl)
theorem g_istore_n {z : Fin 4} {x : Int32} (hdg : decode mi.2.1 pc = .ok (.istore_n z, 1)) (hn : z.val < mi.2.2.1) (kk : GG Δ mi Γ n k c σ (pc + 1) (ls1 lv z.val (.int x)) rest) : GG Δ mi Γ n k c σ pc lv (.int x :: rest) := fun ok H locs ls hP hS hl => lv_istore_n ok.1 ok.2.1 hdg rfl (lvh_iff.mp hl) hn rfl (fun ls2 h2 => kk ok H locs ls2 hP hS (lvh_1 h2))
theorem g_istore {z : Nat} {x : Int32} (hdg : decode mi.2.1 pc = .ok (.istore z, 2)) (hn : z < mi.2.2.1) (kk : GG Δ mi Γ n k c σ (pc + 2) (ls1 lv z (.int x)) rest) : GG Δ mi Γ n k c σ pc lv (.int x :: rest) := fun ok H locs ls hP hS hl => lv_istore ok.1 ok.2.1 hdg (lvh_iff.mp hl) hn rfl (fun ls2 h2 => kk ok H locs ls2 hP hS (lvh_1 h2))
theorem g_lload_n {z : Fin 4} {x : Int64} (hdg : decode mi.2.1 pc = .ok (.lload_n z, 1)) (hv : lv[z.val]? = some (some (.long x))) (kk : GG Δ mi Γ n k c σ (pc + 1) lv (.long x :: rest)) : GG Δ mi Γ n k c σ pc lv rest := fun ok H locs ls hP hS hl => lv_lload_n ok.1 ok.2.1 hdg rfl (lvh_get hl hv) (kk ok H locs ls hP hS hl)
theorem g_lload {z : Nat} {x : Int64} (hdg : decode mi.2.1 pc = .ok (.lload z, 2)) (hv : lv[z]? = some (some (.long x))) (kk : GG Δ mi Γ n k c σ (pc + 2) lv (.long x :: rest)) : GG Δ mi Γ n k c σ pc lv rest := fun ok H locs ls hP hS hl => lv_lload ok.1 ok.2.1 hdg (lvh_get hl hv) (kk ok H locs ls hP hS hl)
theorem g_lstore_n {z : Fin 4} {x : Int64} (hdg : decode mi.2.1 pc = .ok (.lstore_n z, 1)) (hn : z.val + 1 < mi.2.2.1) (kk : GG Δ mi Γ n k c σ (pc + 1) (ls2 lv z.val (.long x)) rest) : GG Δ mi Γ n k c σ pc lv (.long x :: rest) := fun ok H locs ls hP hS hl => lv_lstore_n ok.1 ok.2.1 hdg rfl (lvh_iff.mp hl) hn rfl (fun ls2 h2 => kk ok H locs ls2 hP hS (lvh_2 h2))
theorem g_lstore {z : Nat} {x : Int64} (hdg : decode mi.2.1 pc = .ok (.lstore z, 2)) (hn : z + 1 < mi.2.2.1) (kk : GG Δ mi Γ n k c σ (pc + 2) (ls2 lv z (.long x)) rest) : GG Δ mi Γ n k c σ pc lv (.long x :: rest) := fun ok H locs ls hP hS hl => lv_lstore ok.1 ok.2.1 hdg (lvh_iff.mp hl) hn rfl (fun ls2 h2 => kk ok H locs ls2 hP hS (lvh_2 h2))
theorem g_aload_n {z : Fin 4} {x : Nat} (hdg : decode mi.2.1 pc = .ok (.aload_n z, 1)) (hv : lv[z.val]? = some (some (.ref x))) (kk : GG Δ mi Γ n k c σ (pc + 1) lv (.ref x :: rest)) : GG Δ mi Γ n k c σ pc lv rest := fun ok H locs ls hP hS hl => lv_aload_n ok.1 ok.2.1 hdg rfl (lvh_get hl hv) (kk ok H locs ls hP hS hl)
theorem g_aload {z : Nat} {x : Nat} (hdg : decode mi.2.1 pc = .ok (.aload z, 2)) (hv : lv[z]? = some (some (.ref x))) (kk : GG Δ mi Γ n k c σ (pc + 2) lv (.ref x :: rest)) : GG Δ mi Γ n k c σ pc lv rest := fun ok H locs ls hP hS hl => lv_aload ok.1 ok.2.1 hdg (lvh_get hl hv) (kk ok H locs ls hP hS hl)
theorem g_astore_n {z : Fin 4} {x : Nat} (hdg : decode mi.2.1 pc = .ok (.astore_n z, 1)) (hn : z.val < mi.2.2.1) (kk : GG Δ mi Γ n k c σ (pc + 1) (ls1 lv z.val (.ref x)) rest) : GG Δ mi Γ n k c σ pc lv (.ref x :: rest) := fun ok H locs ls hP hS hl => lv_astore_n ok.1 ok.2.1 hdg rfl (lvh_iff.mp hl) hn rfl (fun ls2 h2 => kk ok H locs ls2 hP hS (lvh_1 h2))
theorem g_astore {z : Nat} {x : Nat} (hdg : decode mi.2.1 pc = .ok (.astore z, 2)) (hn : z < mi.2.2.1) (kk : GG Δ mi Γ n k c σ (pc + 2) (ls1 lv z (.ref x)) rest) : GG Δ mi Γ n k c σ pc lv (.ref x :: rest) := fun ok H locs ls hP hS hl => lv_astore ok.1 ok.2.1 hdg (lvh_iff.mp hl) hn rfl (fun ls2 h2 => kk ok H locs ls2 hP hS (lvh_1 h2))
theorem g_iinc {z : Nat} {d : Int} {x : Int32} (hdg : decode mi.2.1 pc = .ok (.iinc z d, 3)) (hv : lv[z]? = some (some (.int x))) (hn : z < mi.2.2.1) (kk : GG Δ mi Γ n k c σ (pc + 3) (ls1 lv z (.int (x + Int32.ofInt d))) rest) : GG Δ mi Γ n k c σ pc lv rest := fun ok H locs ls hP hS hl => by
  obtain ⟨j, hj⟩ := List.getElem?_of_mem (toL_mem.mpr hv)
  exact lv_iinc ok.1 ok.2.1 hdg (lvh_iff.mp hl) hj rfl hn rfl (fun ls2 h2 => kk ok H locs ls2 hP hS (lvh_1 h2))
theorem g_iadd {x y : Int32} (hdg : decode mi.2.1 pc = .ok (.iadd, 1)) (kk : GG Δ mi Γ n k c σ (pc + 1) lv (.int (x + y) :: rest)) : GG Δ mi Γ n k c σ pc lv (.int y :: .int x :: rest) := fun ok H locs ls hP hS hl => lv_iadd ok.1 ok.2.1 hdg  (kk ok H locs ls hP hS hl)
theorem g_isub {x y : Int32} (hdg : decode mi.2.1 pc = .ok (.isub, 1)) (kk : GG Δ mi Γ n k c σ (pc + 1) lv (.int (x - y) :: rest)) : GG Δ mi Γ n k c σ pc lv (.int y :: .int x :: rest) := fun ok H locs ls hP hS hl => lv_isub ok.1 ok.2.1 hdg  (kk ok H locs ls hP hS hl)
theorem g_imul {x y : Int32} (hdg : decode mi.2.1 pc = .ok (.imul, 1)) (kk : GG Δ mi Γ n k c σ (pc + 1) lv (.int (x * y) :: rest)) : GG Δ mi Γ n k c σ pc lv (.int y :: .int x :: rest) := fun ok H locs ls hP hS hl => lv_imul ok.1 ok.2.1 hdg  (kk ok H locs ls hP hS hl)
theorem g_iand {x y : Int32} (hdg : decode mi.2.1 pc = .ok (.iand, 1)) (kk : GG Δ mi Γ n k c σ (pc + 1) lv (.int (x &&& y) :: rest)) : GG Δ mi Γ n k c σ pc lv (.int y :: .int x :: rest) := fun ok H locs ls hP hS hl => lv_iand ok.1 ok.2.1 hdg  (kk ok H locs ls hP hS hl)
theorem g_ior {x y : Int32} (hdg : decode mi.2.1 pc = .ok (.ior, 1)) (kk : GG Δ mi Γ n k c σ (pc + 1) lv (.int (x ||| y) :: rest)) : GG Δ mi Γ n k c σ pc lv (.int y :: .int x :: rest) := fun ok H locs ls hP hS hl => lv_ior ok.1 ok.2.1 hdg  (kk ok H locs ls hP hS hl)
theorem g_ixor {x y : Int32} (hdg : decode mi.2.1 pc = .ok (.ixor, 1)) (kk : GG Δ mi Γ n k c σ (pc + 1) lv (.int (x ^^^ y) :: rest)) : GG Δ mi Γ n k c σ pc lv (.int y :: .int x :: rest) := fun ok H locs ls hP hS hl => lv_ixor ok.1 ok.2.1 hdg  (kk ok H locs ls hP hS hl)
theorem g_ishl {x y : Int32} (hdg : decode mi.2.1 pc = .ok (.ishl, 1)) (kk : GG Δ mi Γ n k c σ (pc + 1) lv (.int (x <<< (y &&& 31)) :: rest)) : GG Δ mi Γ n k c σ pc lv (.int y :: .int x :: rest) := fun ok H locs ls hP hS hl => lv_ishl ok.1 ok.2.1 hdg  (kk ok H locs ls hP hS hl)
theorem g_ishr {x y : Int32} (hdg : decode mi.2.1 pc = .ok (.ishr, 1)) (kk : GG Δ mi Γ n k c σ (pc + 1) lv (.int (x >>> (y &&& 31)) :: rest)) : GG Δ mi Γ n k c σ pc lv (.int y :: .int x :: rest) := fun ok H locs ls hP hS hl => lv_ishr ok.1 ok.2.1 hdg  (kk ok H locs ls hP hS hl)
theorem g_ineg {x : Int32} (hdg : decode mi.2.1 pc = .ok (.ineg, 1)) (kk : GG Δ mi Γ n k c σ (pc + 1) lv (.int (-x) :: rest)) : GG Δ mi Γ n k c σ pc lv (.int x :: rest) := fun ok H locs ls hP hS hl => lv_ineg ok.1 ok.2.1 hdg  (kk ok H locs ls hP hS hl)
theorem g_idiv {x y : Int32} (hdg : decode mi.2.1 pc = .ok (.idiv, 1)) (hne : ¬ y = 0) (kk : GG Δ mi Γ n k c σ (pc + 1) lv (.int (x / y) :: rest)) : GG Δ mi Γ n k c σ pc lv (.int y :: .int x :: rest) := fun ok H locs ls hP hS hl => lv_idiv ok.1 ok.2.1 hdg hne (kk ok H locs ls hP hS hl)
theorem g_irem {x y : Int32} (hdg : decode mi.2.1 pc = .ok (.irem, 1)) (hne : ¬ y = 0) (kk : GG Δ mi Γ n k c σ (pc + 1) lv (.int (x - x / y * y) :: rest)) : GG Δ mi Γ n k c σ pc lv (.int y :: .int x :: rest) := fun ok H locs ls hP hS hl => lv_irem ok.1 ok.2.1 hdg hne (kk ok H locs ls hP hS hl)
theorem g_ladd {x y : Int64} (hdg : decode mi.2.1 pc = .ok (.ladd, 1)) (kk : GG Δ mi Γ n k c σ (pc + 1) lv (.long (x + y) :: rest)) : GG Δ mi Γ n k c σ pc lv (.long y :: .long x :: rest) := fun ok H locs ls hP hS hl => lv_ladd ok.1 ok.2.1 hdg  (kk ok H locs ls hP hS hl)
theorem g_lsub {x y : Int64} (hdg : decode mi.2.1 pc = .ok (.lsub, 1)) (kk : GG Δ mi Γ n k c σ (pc + 1) lv (.long (x - y) :: rest)) : GG Δ mi Γ n k c σ pc lv (.long y :: .long x :: rest) := fun ok H locs ls hP hS hl => lv_lsub ok.1 ok.2.1 hdg  (kk ok H locs ls hP hS hl)
theorem g_lmul {x y : Int64} (hdg : decode mi.2.1 pc = .ok (.lmul, 1)) (kk : GG Δ mi Γ n k c σ (pc + 1) lv (.long (x * y) :: rest)) : GG Δ mi Γ n k c σ pc lv (.long y :: .long x :: rest) := fun ok H locs ls hP hS hl => lv_lmul ok.1 ok.2.1 hdg  (kk ok H locs ls hP hS hl)
theorem g_land {x y : Int64} (hdg : decode mi.2.1 pc = .ok (.land, 1)) (kk : GG Δ mi Γ n k c σ (pc + 1) lv (.long (x &&& y) :: rest)) : GG Δ mi Γ n k c σ pc lv (.long y :: .long x :: rest) := fun ok H locs ls hP hS hl => lv_land ok.1 ok.2.1 hdg  (kk ok H locs ls hP hS hl)
theorem g_lor {x y : Int64} (hdg : decode mi.2.1 pc = .ok (.lor, 1)) (kk : GG Δ mi Γ n k c σ (pc + 1) lv (.long (x ||| y) :: rest)) : GG Δ mi Γ n k c σ pc lv (.long y :: .long x :: rest) := fun ok H locs ls hP hS hl => lv_lor ok.1 ok.2.1 hdg  (kk ok H locs ls hP hS hl)
theorem g_lxor {x y : Int64} (hdg : decode mi.2.1 pc = .ok (.lxor, 1)) (kk : GG Δ mi Γ n k c σ (pc + 1) lv (.long (x ^^^ y) :: rest)) : GG Δ mi Γ n k c σ pc lv (.long y :: .long x :: rest) := fun ok H locs ls hP hS hl => lv_lxor ok.1 ok.2.1 hdg  (kk ok H locs ls hP hS hl)
theorem g_ldiv {x y : Int64} (hdg : decode mi.2.1 pc = .ok (.ldiv, 1)) (hne : ¬ y = 0) (kk : GG Δ mi Γ n k c σ (pc + 1) lv (.long (x / y) :: rest)) : GG Δ mi Γ n k c σ pc lv (.long y :: .long x :: rest) := fun ok H locs ls hP hS hl => lv_ldiv ok.1 ok.2.1 hdg hne (kk ok H locs ls hP hS hl)
theorem g_lrem {x y : Int64} (hdg : decode mi.2.1 pc = .ok (.lrem, 1)) (hne : ¬ y = 0) (kk : GG Δ mi Γ n k c σ (pc + 1) lv (.long (x - x / y * y) :: rest)) : GG Δ mi Γ n k c σ pc lv (.long y :: .long x :: rest) := fun ok H locs ls hP hS hl => lv_lrem ok.1 ok.2.1 hdg hne (kk ok H locs ls hP hS hl)
theorem g_lneg {x : Int64} (hdg : decode mi.2.1 pc = .ok (.lneg, 1)) (kk : GG Δ mi Γ n k c σ (pc + 1) lv (.long (-x) :: rest)) : GG Δ mi Γ n k c σ pc lv (.long x :: rest) := fun ok H locs ls hP hS hl => lv_lneg ok.1 ok.2.1 hdg  (kk ok H locs ls hP hS hl)
theorem g_i2l {x : Int32} (hdg : decode mi.2.1 pc = .ok (.i2l, 1)) (kk : GG Δ mi Γ n k c σ (pc + 1) lv (.long x.toInt64 :: rest)) : GG Δ mi Γ n k c σ pc lv (.int x :: rest) := fun ok H locs ls hP hS hl => lv_i2l ok.1 ok.2.1 hdg rfl (kk ok H locs ls hP hS hl)
theorem g_l2i {x : Int64} (hdg : decode mi.2.1 pc = .ok (.l2i, 1)) (kk : GG Δ mi Γ n k c σ (pc + 1) lv (.int x.toInt32 :: rest)) : GG Δ mi Γ n k c σ pc lv (.long x :: rest) := fun ok H locs ls hP hS hl => lv_l2i ok.1 ok.2.1 hdg rfl (kk ok H locs ls hP hS hl)
theorem g_i2c {x : Int32} (hdg : decode mi.2.1 pc = .ok (.i2c, 1)) (kk : GG Δ mi Γ n k c σ (pc + 1) lv (.int (x.toUInt32 % 65536).toInt32 :: rest)) : GG Δ mi Γ n k c σ pc lv (.int x :: rest) := fun ok H locs ls hP hS hl => lv_i2c ok.1 ok.2.1 hdg rfl (kk ok H locs ls hP hS hl)
theorem g_i2b {x : Int32} (hdg : decode mi.2.1 pc = .ok (.i2b, 1)) (kk : GG Δ mi Γ n k c σ (pc + 1) lv (.int x.toInt8.toInt32 :: rest)) : GG Δ mi Γ n k c σ pc lv (.int x :: rest) := fun ok H locs ls hP hS hl => lv_i2b ok.1 ok.2.1 hdg rfl (kk ok H locs ls hP hS hl)
theorem g_lshr {x : Int64} {y : Int32} (hdg : decode mi.2.1 pc = .ok (.lshr, 1)) (kk : GG Δ mi Γ n k c σ (pc + 1) lv (.long (x >>> (y.toInt64 &&& 63)) :: rest)) : GG Δ mi Γ n k c σ pc lv (.int y :: .long x :: rest) := fun ok H locs ls hP hS hl => lv_lshr ok.1 ok.2.1 hdg rfl (kk ok H locs ls hP hS hl)
theorem g_dup {va : Value} (hdg : decode mi.2.1 pc = .ok (.dup, 1)) (ha : va.category = 1) (kk : GG Δ mi Γ n k c σ (pc + 1) lv (va :: va :: rest)) : GG Δ mi Γ n k c σ pc lv (va :: rest) := fun ok H locs ls hP hS hl => lv_dup ok.1 ok.2.1 hdg ha (kk ok H locs ls hP hS hl)
theorem g_pop {va : Value} (hdg : decode mi.2.1 pc = .ok (.pop, 1)) (ha : va.category = 1) (kk : GG Δ mi Γ n k c σ (pc + 1) lv (rest)) : GG Δ mi Γ n k c σ pc lv (va :: rest) := fun ok H locs ls hP hS hl => lv_pop ok.1 ok.2.1 hdg ha (kk ok H locs ls hP hS hl)
theorem g_dup_x1 {va vb : Value} (hdg : decode mi.2.1 pc = .ok (.dup_x1, 1)) (ha : va.category = 1) (hb : vb.category = 1) (kk : GG Δ mi Γ n k c σ (pc + 1) lv (va :: vb :: va :: rest)) : GG Δ mi Γ n k c σ pc lv (va :: vb :: rest) := fun ok H locs ls hP hS hl => lv_dup_x1 ok.1 ok.2.1 hdg ha hb (kk ok H locs ls hP hS hl)
theorem g_dup2 {va vb : Value} (hdg : decode mi.2.1 pc = .ok (.dup2, 1)) (ha : va.category = 1) (hb : vb.category = 1) (kk : GG Δ mi Γ n k c σ (pc + 1) lv (va :: vb :: va :: vb :: rest)) : GG Δ mi Γ n k c σ pc lv (va :: vb :: rest) := fun ok H locs ls hP hS hl => lv_dup2_11 ok.1 ok.2.1 hdg ha hb (kk ok H locs ls hP hS hl)
-- theorem g_lcmp {x y : Int64} (hdg : decode mi.2.1 pc = .ok (.lcmp, 1)) (kk : ∀ z : Int32, LC x y z → GG Δ mi Γ n k c σ (pc + 1) lv (.int z :: rest)) : GG Δ mi Γ n k c σ pc lv (.long y :: .long x :: rest) := fun ok H locs ls hP hS hl => g_lcmp_0 kk ok H locs ls hP hS hl hdg
theorem g_ifeq {x : Int32} {off : Int} {tgt : Nat} (hdg : decode mi.2.1 pc = .ok (.ifCond .eq off, 3)) (ht : (pc : Int) + off = (tgt : Int)) (kt : x = 0 → GG Δ mi Γ n k c σ tgt lv rest) (kf : ¬ x = 0 → GG Δ mi Γ n k c σ (pc + 3) lv rest) : GG Δ mi Γ n k c σ pc lv (.int x :: rest) := fun ok H locs ls hP hS hl => lv_if_eq ok.1 ok.2.1 hdg ht (fun h => kt h ok H locs ls hP hS hl) (fun h => kf h ok H locs ls hP hS hl)
theorem g_icmpeq {x y : Int32} {off : Int} {tgt : Nat} (hdg : decode mi.2.1 pc = .ok (.if_icmp .eq off, 3)) (ht : (pc : Int) + off = (tgt : Int)) (kt : x = y → GG Δ mi Γ n k c σ tgt lv rest) (kf : ¬ x = y → GG Δ mi Γ n k c σ (pc + 3) lv rest) : GG Δ mi Γ n k c σ pc lv (.int y :: .int x :: rest) := fun ok H locs ls hP hS hl => lv_icmp_eq ok.1 ok.2.1 hdg ht (fun h => kt h ok H locs ls hP hS hl) (fun h => kf h ok H locs ls hP hS hl)
theorem g_ifne {x : Int32} {off : Int} {tgt : Nat} (hdg : decode mi.2.1 pc = .ok (.ifCond .ne off, 3)) (ht : (pc : Int) + off = (tgt : Int)) (kt : ¬ x = 0 → GG Δ mi Γ n k c σ tgt lv rest) (kf : x = 0 → GG Δ mi Γ n k c σ (pc + 3) lv rest) : GG Δ mi Γ n k c σ pc lv (.int x :: rest) := fun ok H locs ls hP hS hl => lv_if_ne ok.1 ok.2.1 hdg ht (fun h => kt h ok H locs ls hP hS hl) (fun h => kf h ok H locs ls hP hS hl)
theorem g_icmpne {x y : Int32} {off : Int} {tgt : Nat} (hdg : decode mi.2.1 pc = .ok (.if_icmp .ne off, 3)) (ht : (pc : Int) + off = (tgt : Int)) (kt : ¬ x = y → GG Δ mi Γ n k c σ tgt lv rest) (kf : x = y → GG Δ mi Γ n k c σ (pc + 3) lv rest) : GG Δ mi Γ n k c σ pc lv (.int y :: .int x :: rest) := fun ok H locs ls hP hS hl => lv_icmp_ne ok.1 ok.2.1 hdg ht (fun h => kt h ok H locs ls hP hS hl) (fun h => kf h ok H locs ls hP hS hl)
theorem g_iflt {x : Int32} {off : Int} {tgt : Nat} (hdg : decode mi.2.1 pc = .ok (.ifCond .lt off, 3)) (ht : (pc : Int) + off = (tgt : Int)) (kt : x < 0 → GG Δ mi Γ n k c σ tgt lv rest) (kf : ¬ x < 0 → GG Δ mi Γ n k c σ (pc + 3) lv rest) : GG Δ mi Γ n k c σ pc lv (.int x :: rest) := fun ok H locs ls hP hS hl => lv_if_lt ok.1 ok.2.1 hdg ht (fun h => kt h ok H locs ls hP hS hl) (fun h => kf h ok H locs ls hP hS hl)
theorem g_icmplt {x y : Int32} {off : Int} {tgt : Nat} (hdg : decode mi.2.1 pc = .ok (.if_icmp .lt off, 3)) (ht : (pc : Int) + off = (tgt : Int)) (kt : x < y → GG Δ mi Γ n k c σ tgt lv rest) (kf : ¬ x < y → GG Δ mi Γ n k c σ (pc + 3) lv rest) : GG Δ mi Γ n k c σ pc lv (.int y :: .int x :: rest) := fun ok H locs ls hP hS hl => lv_icmp_lt ok.1 ok.2.1 hdg ht (fun h => kt h ok H locs ls hP hS hl) (fun h => kf h ok H locs ls hP hS hl)
theorem g_ifge {x : Int32} {off : Int} {tgt : Nat} (hdg : decode mi.2.1 pc = .ok (.ifCond .ge off, 3)) (ht : (pc : Int) + off = (tgt : Int)) (kt : 0 ≤ x → GG Δ mi Γ n k c σ tgt lv rest) (kf : ¬ 0 ≤ x → GG Δ mi Γ n k c σ (pc + 3) lv rest) : GG Δ mi Γ n k c σ pc lv (.int x :: rest) := fun ok H locs ls hP hS hl => lv_if_ge ok.1 ok.2.1 hdg ht (fun h => kt h ok H locs ls hP hS hl) (fun h => kf h ok H locs ls hP hS hl)
theorem g_icmpge {x y : Int32} {off : Int} {tgt : Nat} (hdg : decode mi.2.1 pc = .ok (.if_icmp .ge off, 3)) (ht : (pc : Int) + off = (tgt : Int)) (kt : y ≤ x → GG Δ mi Γ n k c σ tgt lv rest) (kf : ¬ y ≤ x → GG Δ mi Γ n k c σ (pc + 3) lv rest) : GG Δ mi Γ n k c σ pc lv (.int y :: .int x :: rest) := fun ok H locs ls hP hS hl => lv_icmp_ge ok.1 ok.2.1 hdg ht (fun h => kt h ok H locs ls hP hS hl) (fun h => kf h ok H locs ls hP hS hl)
theorem g_ifgt {x : Int32} {off : Int} {tgt : Nat} (hdg : decode mi.2.1 pc = .ok (.ifCond .gt off, 3)) (ht : (pc : Int) + off = (tgt : Int)) (kt : 0 < x → GG Δ mi Γ n k c σ tgt lv rest) (kf : ¬ 0 < x → GG Δ mi Γ n k c σ (pc + 3) lv rest) : GG Δ mi Γ n k c σ pc lv (.int x :: rest) := fun ok H locs ls hP hS hl => lv_if_gt ok.1 ok.2.1 hdg ht (fun h => kt h ok H locs ls hP hS hl) (fun h => kf h ok H locs ls hP hS hl)
theorem g_icmpgt {x y : Int32} {off : Int} {tgt : Nat} (hdg : decode mi.2.1 pc = .ok (.if_icmp .gt off, 3)) (ht : (pc : Int) + off = (tgt : Int)) (kt : y < x → GG Δ mi Γ n k c σ tgt lv rest) (kf : ¬ y < x → GG Δ mi Γ n k c σ (pc + 3) lv rest) : GG Δ mi Γ n k c σ pc lv (.int y :: .int x :: rest) := fun ok H locs ls hP hS hl => lv_icmp_gt ok.1 ok.2.1 hdg ht (fun h => kt h ok H locs ls hP hS hl) (fun h => kf h ok H locs ls hP hS hl)
theorem g_ifle {x : Int32} {off : Int} {tgt : Nat} (hdg : decode mi.2.1 pc = .ok (.ifCond .le off, 3)) (ht : (pc : Int) + off = (tgt : Int)) (kt : x ≤ 0 → GG Δ mi Γ n k c σ tgt lv rest) (kf : ¬ x ≤ 0 → GG Δ mi Γ n k c σ (pc + 3) lv rest) : GG Δ mi Γ n k c σ pc lv (.int x :: rest) := fun ok H locs ls hP hS hl => lv_if_le ok.1 ok.2.1 hdg ht (fun h => kt h ok H locs ls hP hS hl) (fun h => kf h ok H locs ls hP hS hl)
theorem g_icmple {x y : Int32} {off : Int} {tgt : Nat} (hdg : decode mi.2.1 pc = .ok (.if_icmp .le off, 3)) (ht : (pc : Int) + off = (tgt : Int)) (kt : x ≤ y → GG Δ mi Γ n k c σ tgt lv rest) (kf : ¬ x ≤ y → GG Δ mi Γ n k c σ (pc + 3) lv rest) : GG Δ mi Γ n k c σ pc lv (.int y :: .int x :: rest) := fun ok H locs ls hP hS hl => lv_icmp_le ok.1 ok.2.1 hdg ht (fun h => kt h ok H locs ls hP hS hl) (fun h => kf h ok H locs ls hP hS hl)
theorem g_goto {off : Int} {tgt : Nat} (hdg : decode mi.2.1 pc = .ok (.goto off, 3)) (ht : (pc : Int) + off = (tgt : Int)) (kk : GG Δ mi Γ n k c σ tgt lv rest) : GG Δ mi Γ n k c σ pc lv rest := fun ok H locs ls hP hS hl => lv_goto ok.1 ok.2.1 hdg ht (kk ok H locs ls hP hS hl)
theorem g_tableIn {dflt lo hi : Int} {offs : Array Int} {len : Nat} {x : Int32} {off : Int} {tgt : Nat} (hdg : decode mi.2.1 pc = .ok (.tableswitch dflt lo hi offs, len)) (h1 : ¬ x.toInt < lo) (h2 : ¬ hi < x.toInt) (ho : offs[(x.toInt - lo).toNat]? = some off) (ht : (pc : Int) + off = (tgt : Int)) (kk : GG Δ mi Γ n k c σ tgt lv rest) : GG Δ mi Γ n k c σ pc lv (.int x :: rest) := fun ok H locs ls hP hS hl => lv_tableIn ok.1 ok.2.1 hdg h1 h2 ho ht (kk ok H locs ls hP hS hl)
theorem g_tableOut {dflt lo hi : Int} {offs : Array Int} {len : Nat} {x : Int32} {tgt : Nat} (hdg : decode mi.2.1 pc = .ok (.tableswitch dflt lo hi offs, len)) (h : x.toInt < lo ∨ hi < x.toInt) (ht : (pc : Int) + dflt = (tgt : Int)) (kk : GG Δ mi Γ n k c σ tgt lv rest) : GG Δ mi Γ n k c σ pc lv (.int x :: rest) := fun ok H locs ls hP hS hl => lv_tableOut ok.1 ok.2.1 hdg h ht (kk ok H locs ls hP hS hl)
theorem g_lookup {dflt : Int} {ps : Array (Int × Int)} {len : Nat} {x : Int32} {off : Int} {tgt : Nat} (hdg : decode mi.2.1 pc = .ok (.lookupswitch dflt ps, len)) (hp : (ps.toList.zip (ps.toList.drop 1)).all (fun (a, next) => a.1 < next.1) = true) (ho : Op.lookupswitch.offset ps.toList dflt x.toInt = off) (ht : (pc : Int) + off = (tgt : Int)) (kk : GG Δ mi Γ n k c σ tgt lv rest) : GG Δ mi Γ n k c σ pc lv (.int x :: rest) := fun ok H locs ls hP hS hl => lv_lookup ok.1 ok.2.1 hdg hp ho ht (kk ok H locs ls hP hS hl)
theorem g_lookupC {dflt : Int} {ps : Array (Int × Int)} {len : Nat} {x : Int32} (hdg : decode mi.2.1 pc = .ok (.lookupswitch dflt ps, len)) (hp : (ps.toList.zip (ps.toList.drop 1)).all (fun (a, next) => a.1 < next.1) = true) (hc : ∀ q ∈ ps.toList, x.toInt = q.1 → ∃ tgt : Nat, (pc : Int) + q.2 = (tgt : Int) ∧ GG Δ mi Γ n k c σ tgt lv rest) (hd : (∀ q ∈ ps.toList, ¬ x.toInt = q.1) → ∃ tgt : Nat, (pc : Int) + dflt = (tgt : Int) ∧ GG Δ mi Γ n k c σ tgt lv rest) : GG Δ mi Γ n k c σ pc lv (.int x :: rest) := by
  have key : ∀ l : List (Int × Int), (∀ q ∈ l, x.toInt = q.1 → ∃ tgt : Nat, (pc : Int) + q.2 = (tgt : Int) ∧ GG Δ mi Γ n k c σ tgt lv rest) → ((∀ q ∈ l, ¬ x.toInt = q.1) → ∃ tgt : Nat, (pc : Int) + dflt = (tgt : Int) ∧ GG Δ mi Γ n k c σ tgt lv rest) → ∃ (off : Int) (tgt : Nat), Op.lookupswitch.offset l dflt x.toInt = off ∧ (pc : Int) + off = (tgt : Int) ∧ GG Δ mi Γ n k c σ tgt lv rest := by
    intro l
    induction l with
    | nil =>
      intro _ h
      obtain ⟨tgt, h1, h2⟩ := h (fun _ h => absurd h List.not_mem_nil)
      exact ⟨dflt, tgt, rfl, h1, h2⟩
    | cons q l ih =>
      intro h1 h2
      obtain ⟨a, o⟩ := q
      rw [Op.lookupswitch.offset_cons]
      by_cases e : x.toInt = a
      · obtain ⟨tgt, h3, h4⟩ := h1 (a, o) List.mem_cons_self e
        rw [if_pos e.symm]
        exact ⟨o, tgt, rfl, h3, h4⟩
      · rw [if_neg (fun q => e q.symm)]
        exact ih (fun q hq => h1 q (List.mem_cons_of_mem _ hq)) (fun hn => h2 (fun q hq => by
          rcases List.mem_cons.mp hq with rfl | hq
          · exact e
          · exact hn q hq))
  obtain ⟨off, tgt, h1, h2, h3⟩ := key ps.toList hc hd
  exact g_lookup hdg hp h1 h2 h3
theorem g_tableC {dflt lo hi : Int} {offs : Array Int} {len : Nat} {x : Int32} (hdg : decode mi.2.1 pc = .ok (.tableswitch dflt lo hi offs, len)) (hc : ∀ (i : Nat) (off : Int), offs[i]? = some off → x.toInt = lo + (i : Int) → ∃ tgt : Nat, (pc : Int) + off = (tgt : Int) ∧ GG Δ mi Γ n k c σ tgt lv rest) (hs : (offs.size : Int) = hi - lo + 1) (hd : x.toInt < lo ∨ hi < x.toInt → ∃ tgt : Nat, (pc : Int) + dflt = (tgt : Int) ∧ GG Δ mi Γ n k c σ tgt lv rest) : GG Δ mi Γ n k c σ pc lv (.int x :: rest) := by
  by_cases h : x.toInt < lo ∨ hi < x.toInt
  · obtain ⟨tgt, h1, h2⟩ := hd h
    exact g_tableOut hdg h h1 h2
  · have h1 : ¬ x.toInt < lo := fun q => h (Or.inl q)
    have h2 : ¬ hi < x.toInt := fun q => h (Or.inr q)
    have h3 : (x.toInt - lo).toNat < offs.size := by omega
    have h4 : offs[(x.toInt - lo).toNat]? = some (offs[(x.toInt - lo).toNat]'h3) := Array.getElem?_eq_getElem h3
    obtain ⟨tgt, h5, h6⟩ := hc _ _ h4 (by omega)
    exact g_tableIn hdg h1 h2 h4 h5 h6
/-- a field's entry: the place k of class ci, by the word of the tables -/
def Fx (own : String) (idx ci k : Nat) : Prop := ∃ (C : String) (T : u_T) (N : Nat), vcl[ci]? = some (C, T, N) ∧ N = nmF ci ∧ k < N ∧ (∀ w ∈ u_ws C T N, w ∈ tb) ∧ (∀ j, j < N → parseFieldDescriptor (T j).2.2.1 = some (tyF ci j)) ∧ (∀ a, a < N → ∀ b, b < N → a ≠ b → (T a).2.1 ≠ (T b).2.1) ∧ Cond.fieldLink own idx (T k).1 (T k).2.1 (T k).2.2.1 ∈ tb
/-- it isn't final; it is final and own -/
def Fm (ci k : Nat) : Prop := ∀ (C : String) (T : u_T) (N : Nat), vcl[ci]? = some (C, T, N) → (T k).2.2.2 = false
def Fi (own : String) (ci k : Nat) : Prop := ∀ (C : String) (T : u_T) (N : Nat), vcl[ci]? = some (C, T, N) → (T k).2.2.2 = true ∧ (T k).1 = own
theorem g_get {a ci j idx : Nat} {v : Value} (hdg : decode mi.2.1 pc = .ok (.getfield idx, 3)) (hf : Fx mi.1.cls idx ci j) (ho : Ob n a ci) (hv : fv ci σ a j = v) (kk : GG Δ mi Γ n k c σ (pc + 3) lv (v :: rest)) : GG Δ mi Γ n k c σ pc lv (.ref (Δ.ba + a) :: rest) := fun ok H locs ls hP hS hl => by
  obtain ⟨C, T, N, hc, hN, hj, hin, -, -, hlink⟩ := hf
  refine va_get (D := Δ.2.1) (cl := vcl) (ci := ci) (C := C) (T := T) (N := N) (tys := tysO Δ.2.2.1) (fs := (List.range (nmF ci)).map (fv ci σ a)) ok.1 ok.2.1 ok.2.2.2.2.1 hin ok.2.2.2.1 ok.2.2.2.2.2.2.2.1.1 hP a (by rw [wsO_at ho.1, cellO_ob ho.2]) hc j hj (ok.2.2.2.2.1 _ hlink) (fun _ h9 => h9) ?_ hdg (kk ok H locs ls hP hS hl)
  rw [List.getElem?_map, List.getElem?_range (by omega), ← hv]
  rfl
theorem g_geti {a ci j idx : Nat} (hdg : decode mi.2.1 pc = .ok (.getfield idx, 3)) (hf : Fx mi.1.cls idx ci j) (ho : Ob n a ci) (hk : fk (tyF ci j) = 0) (kk : GG Δ mi Γ n k c σ (pc + 3) lv (.int (σ.1 a j) :: rest)) : GG Δ mi Γ n k c σ pc lv (.ref (Δ.ba + a) :: rest) := g_get hdg hf ho (by unfold fv; rw [hk]; rfl) kk
theorem g_getr {a ci j idx : Nat} {v : Value} (hdg : decode mi.2.1 pc = .ok (.getfield idx, 3)) (hf : Fx mi.1.cls idx ci j) (ho : Ob n a ci) (hk : fk (tyF ci j) = 2) (hv : σ.2.2 a j = v) (kk : GG Δ mi Γ n k c σ (pc + 3) lv (v :: rest)) : GG Δ mi Γ n k c σ pc lv (.ref (Δ.ba + a) :: rest) := g_get hdg hf ho (by unfold fv; rw [hk]; exact hv) kk
theorem fv_I {ci a j : Nat} {x : Int32} (hk : fk (tyF ci j) = 0) : fv ci (stI σ a j x) a j = .int x := by
  unfold fv
  rw [hk]
  show Value.int (upA σ.1 a (upd (σ.1 a) j x) a j) = _
  unfold upA upd
  rw [if_pos rfl, if_pos rfl]
theorem fv_In {ci a i j : Nat} {x : Int32} (h : i ≠ j) : fv ci (stI σ a j x) a i = fv ci σ a i := by
  unfold fv
  have e : (stI σ a j x).1 a i = σ.1 a i := by
    show upA σ.1 a (upd (σ.1 a) j x) a i = _
    unfold upA upd
    rw [if_pos rfl, if_neg h]
  rw [e]
  rfl
theorem fv_R {ci a j : Nat} {v : Value} (hk : fk (tyF ci j) = 2) : fv ci (stR σ a j v) a j = v := by
  unfold fv
  rw [hk]
  show upA σ.2.2 a (updV (σ.2.2 a) j v) a j = _
  unfold upA updV
  rw [if_pos rfl, if_pos rfl]
theorem fv_Rn {ci a i j : Nat} {v : Value} (h : i ≠ j) : fv ci (stR σ a j v) a i = fv ci σ a i := by
  unfold fv
  have e : (stR σ a j v).2.2 a i = σ.2.2 a i := by
    show upA σ.2.2 a (updV (σ.2.2 a) j v) a i = _
    unfold upA updV
    rw [if_pos rfl, if_neg h]
  rw [e]
  rfl
theorem g_put {a ci j idx : Nat} {v : Value} {σ' : St} (hdg : decode mi.2.1 pc = .ok (.putfield idx, 3)) (hf : Fx mi.1.cls idx ci j) (hm : Fm ci j ∨ (Fi mi.1.cls ci j ∧ mi.1.name = "<init>")) (ho : Ob n a ci) (hn : narrow (tyF ci j) v = v) (hfit : fits (tyF ci j) v = true) (h1 : fv ci σ' a j = v) (h2 : ∀ i, i ≠ j → fv ci σ' a i = fv ci σ a i) (h3 : ∀ b, b ≠ a → cellO Δ.2.2.1 σ' b = cellO Δ.2.2.1 σ b) (kk : GG Δ mi Γ n k c σ' (pc + 3) lv rest) : GG Δ mi Γ n k c σ pc lv (v :: .ref (Δ.ba + a) :: rest) := fun ok H locs ls hP hS hl => by
  obtain ⟨C, T, N, hc, hN, hj, hin, hty, hnm, hlink⟩ := hf
  have hws : (Δ.W n σ)[a]? = some (Δ.ba + a, .inr (ci, (List.range (nmF ci)).map (fv ci σ a))) := by rw [wsO_at ho.1, cellO_ob ho.2]
  have hset : (Δ.W n σ).set a (Δ.ba + a, .inr (ci, ((List.range (nmF ci)).map (fv ci σ a)).set j v)) = Δ.W n σ' := by
    rw [fsO_set h1 h2, ← cellO_ob ho.2]
    exact wsO_set ho.1 h3
  have hl2 : j < ((List.range (nmF ci)).map (fv ci σ a)).length := by rw [List.length_map, List.length_range]; omega
  rcases hm with hm | ⟨hm, hi⟩
  · refine va_put (D := Δ.2.1) (cl := vcl) (ci := ci) (C := C) (T := T) (N := N) (tys := tysO Δ.2.2.1) (ty := tyF ci j) ok.1 ok.2.1 ok.2.2.2.2.1 hin (tyF ci) hty hnm ok.2.2.2.1 ok.2.2.2.2.2.2.2.1.1 hP wsO_D hS a hws hc j hj (ok.2.2.2.2.1 _ hlink) (fun _ h9 => h9) (hm C T N hc) (hty j hj) hn hfit hl2 hdg (fun H1 locs1 hP1 _ hS1 => ?_)
    rw [hset] at hP1
    exact kk ok H1 locs1 ls hP1 hS1 hl
  · refine va_putF (D := Δ.2.1) (cl := vcl) (ci := ci) (C := C) (T := T) (N := N) (tys := tysO Δ.2.2.1) (ty := tyF ci j) ok.1 ok.2.1 ok.2.2.2.2.1 hin (tyF ci) hty hnm ok.2.2.2.1 ok.2.2.2.2.2.2.2.1.1 hP wsO_D hS a hws hc j hj (ok.2.2.2.2.1 _ hlink) (fun _ h9 => h9) (hm C T N hc).1 (ok.2.2.2.2.2.2.2.2.1.trans hi) (hm C T N hc).2 (hty j hj) hn hfit hl2 hdg (fun H1 locs1 hP1 _ hS1 => ?_)
    rw [hset] at hP1
    exact kk ok H1 locs1 ls hP1 hS1 hl
theorem g_puti {a ci j idx : Nat} {x : Int32} (hdg : decode mi.2.1 pc = .ok (.putfield idx, 3)) (hf : Fx mi.1.cls idx ci j) (hm : Fm ci j) (ho : Ob n a ci) (hty : tyF ci j = .int) (kk : GG Δ mi Γ n k c (stI σ a j x) (pc + 3) lv rest) : GG Δ mi Γ n k c σ pc lv (.int x :: .ref (Δ.ba + a) :: rest) := g_put hdg hf (Or.inl hm) ho (by rw [hty]; rfl) (by rw [hty]; rfl) (fv_I (by rw [hty]; rfl)) (fun i h => fv_In h) (fun b h => cellO_I h) kk
theorem g_putz {a ci j idx : Nat} {x : Int32} (hdg : decode mi.2.1 pc = .ok (.putfield idx, 3)) (hf : Fx mi.1.cls idx ci j) (hm : Fm ci j) (ho : Ob n a ci) (hty : tyF ci j = .boolean) (hx : x = 0 ∨ x = 1) (kk : GG Δ mi Γ n k c (stI σ a j x) (pc + 3) lv rest) : GG Δ mi Γ n k c σ pc lv (.int x :: .ref (Δ.ba + a) :: rest) := g_put hdg hf (Or.inl hm) ho (by rw [hty]; rcases hx with rfl | rfl <;> rfl) (by rw [hty]; rcases hx with rfl | rfl <;> rfl) (fv_I (by rw [hty]; rfl)) (fun i h => fv_In h) (fun b h => cellO_I h) kk
theorem g_alen {a len : Nat} {ty : FieldType} {t : Nat} {v : Int32} (hdg : decode mi.2.1 pc = .ok (.arraylength, 1)) (ho : Ar n a ty len) (ht : (tysO Δ.2.2.1)[t]? = some (Δ.2.2.1 ty, ty)) (hv : Int32.ofNat len = v) (kk : GG Δ mi Γ n k c σ (pc + 1) lv (.int v :: rest)) : GG Δ mi Γ n k c σ pc lv (.ref (Δ.ba + a) :: rest) := fun ok H locs ls hP hS hl => by
  have hws : (Δ.W n σ)[a]? = some (Δ.ba + a, .inl (Δ.2.2.1 ty, len, aco ty σ a)) := by
    rw [wsO_at ho.1]
    unfold cellO
    rw [ho.2]
  exact va_alen (D := Δ.2.1) (cl := vcl) (tys := tysO Δ.2.2.1) ok.1 ok.2.1 ok.2.2.2.2.2.2.2.1.1 hP a t hws ht hv hdg (kk ok H locs ls hP hS hl)
theorem g_iald {a len : Nat} {i : Int32} (hdg : decode mi.2.1 pc = .ok (.iaload, 1)) (ho : Ar n a .int len) (hin : vp_in i len) (kk : GG Δ mi Γ n k c σ (pc + 1) lv (.int (σ.1 a i.toNatClampNeg) :: rest)) : GG Δ mi Γ n k c σ pc lv (.int i :: .ref (Δ.ba + a) :: rest) := fun ok H locs ls hP hS hl => by
  have hws : (Δ.W n σ)[a]? = some (Δ.ba + a, .inl (Δ.2.2.1 .int, len, .inl (σ.1 a))) := by rw [wsO_at ho.1, cellO_ar ho.2 rfl]
  exact va_iald (D := Δ.2.1) (cl := vcl) (tys := tysO Δ.2.2.1) ok.1 ok.2.1 ok.2.2.2.2.2.2.2.1.1 hP a 0 hws rfl hin hdg (kk ok H locs ls hP hS hl)
theorem g_cald {a len : Nat} {i : Int32} (hdg : decode mi.2.1 pc = .ok (.caload, 1)) (ho : Ar n a .char len) (hin : vp_in i len) (kk : GG Δ mi Γ n k c σ (pc + 1) lv (.int (σ.1 a i.toNatClampNeg) :: rest)) : GG Δ mi Γ n k c σ pc lv (.int i :: .ref (Δ.ba + a) :: rest) := fun ok H locs ls hP hS hl => by
  have hws : (Δ.W n σ)[a]? = some (Δ.ba + a, .inl (Δ.2.2.1 .char, len, .inl (σ.1 a))) := by rw [wsO_at ho.1, cellO_ar ho.2 rfl]
  exact va_cald (D := Δ.2.1) (cl := vcl) (tys := tysO Δ.2.2.1) ok.1 ok.2.1 ok.2.2.2.2.2.2.2.1.1 hP a 2 hws rfl hin hdg (kk ok H locs ls hP hS hl)
theorem g_bald {a len : Nat} {i : Int32} (hdg : decode mi.2.1 pc = .ok (.baload, 1)) (ho : Ar n a .byte len) (hin : vp_in i len) (kk : GG Δ mi Γ n k c σ (pc + 1) lv (.int (σ.1 a i.toNatClampNeg) :: rest)) : GG Δ mi Γ n k c σ pc lv (.int i :: .ref (Δ.ba + a) :: rest) := fun ok H locs ls hP hS hl => by
  have hws : (Δ.W n σ)[a]? = some (Δ.ba + a, .inl (Δ.2.2.1 .byte, len, .inl (σ.1 a))) := by rw [wsO_at ho.1, cellO_ar ho.2 rfl]
  exact va_bald (D := Δ.2.1) (cl := vcl) (tys := tysO Δ.2.2.1) ok.1 ok.2.1 ok.2.2.2.2.2.2.2.1.1 hP a 3 hws rfl hin hdg (kk ok H locs ls hP hS hl)
theorem g_lald {a len : Nat} {i : Int32} (hdg : decode mi.2.1 pc = .ok (.laload, 1)) (ho : Ar n a .long len) (hin : vp_in i len) (kk : GG Δ mi Γ n k c σ (pc + 1) lv (.long (σ.2.1 a i.toNatClampNeg) :: rest)) : GG Δ mi Γ n k c σ pc lv (.int i :: .ref (Δ.ba + a) :: rest) := fun ok H locs ls hP hS hl => by
  have hws : (Δ.W n σ)[a]? = some (Δ.ba + a, .inl (Δ.2.2.1 .long, len, .inr (.inl (σ.2.1 a)))) := by rw [wsO_at ho.1, cellO_al ho.2 rfl]
  exact va_lald (D := Δ.2.1) (cl := vcl) (tys := tysO Δ.2.2.1) ok.1 ok.2.1 ok.2.2.2.2.2.2.2.1.1 hP a 1 hws rfl hin hdg (kk ok H locs ls hP hS hl)
theorem g_iast {a len : Nat} {i x : Int32} (hdg : decode mi.2.1 pc = .ok (.iastore, 1)) (ho : Ar n a .int len) (hin : vp_in i len) (kk : GG Δ mi Γ n k c (stI σ a i.toNatClampNeg x) (pc + 1) lv rest) : GG Δ mi Γ n k c σ pc lv (.int x :: .int i :: .ref (Δ.ba + a) :: rest) := fun ok H locs ls hP hS hl => by
  have hws : (Δ.W n σ)[a]? = some (Δ.ba + a, .inl (Δ.2.2.1 .int, len, .inl (σ.1 a))) := by rw [wsO_at ho.1, cellO_ar ho.2 rfl]
  have hset : (Δ.W n σ).set a (Δ.ba + a, .inl (Δ.2.2.1 .int, len, .inl (upd (σ.1 a) i.toNatClampNeg x))) = Δ.W n (stI σ a i.toNatClampNeg x) := by
    have e : (Sum.inl (Δ.2.2.1 .int, len, Sum.inl (upd (σ.1 a) i.toNatClampNeg x)) : va_E) = cellO Δ.2.2.1 (stI σ a i.toNatClampNeg x) a := by
      rw [cellO_ar ho.2 rfl]
      show _ = Sum.inl (Δ.2.2.1 .int, len, Sum.inl (upA σ.1 a (upd (σ.1 a) i.toNatClampNeg x) a))
      unfold upA
      rw [if_pos rfl]
    rw [e]
    exact wsO_set ho.1 (fun b h => cellO_I h)
  refine va_iast (D := Δ.2.1) (cl := vcl) (tys := tysO Δ.2.2.1) ok.1 ok.2.1 ok.2.2.2.2.2.2.2.1.1 hP wsO_D hS a 0 hws rfl hin hdg (fun H1 locs1 hP1 _ hS1 => ?_)
  rw [hset] at hP1
  exact kk ok H1 locs1 ls hP1 hS1 hl
theorem g_last {a len : Nat} {i : Int32} {x : Int64} (hdg : decode mi.2.1 pc = .ok (.lastore, 1)) (ho : Ar n a .long len) (hin : vp_in i len) (kk : GG Δ mi Γ n k c (stJ σ a i.toNatClampNeg x) (pc + 1) lv rest) : GG Δ mi Γ n k c σ pc lv (.long x :: .int i :: .ref (Δ.ba + a) :: rest) := fun ok H locs ls hP hS hl => by
  have hws : (Δ.W n σ)[a]? = some (Δ.ba + a, .inl (Δ.2.2.1 .long, len, .inr (.inl (σ.2.1 a)))) := by rw [wsO_at ho.1, cellO_al ho.2 rfl]
  have hset : (Δ.W n σ).set a (Δ.ba + a, .inl (Δ.2.2.1 .long, len, .inr (.inl (vp_updL (σ.2.1 a) i.toNatClampNeg x)))) = Δ.W n (stJ σ a i.toNatClampNeg x) := by
    have e : (Sum.inl (Δ.2.2.1 .long, len, Sum.inr (Sum.inl (vp_updL (σ.2.1 a) i.toNatClampNeg x))) : va_E) = cellO Δ.2.2.1 (stJ σ a i.toNatClampNeg x) a := by
      rw [cellO_al ho.2 rfl]
      show _ = Sum.inl (Δ.2.2.1 .long, len, Sum.inr (Sum.inl (upA σ.2.1 a (vp_updL (σ.2.1 a) i.toNatClampNeg x) a)))
      unfold upA
      rw [if_pos rfl]
    rw [e]
    exact wsO_set ho.1 (fun b h => cellO_J h)
  refine va_last (D := Δ.2.1) (cl := vcl) (tys := tysO Δ.2.2.1) ok.1 ok.2.1 ok.2.2.2.2.2.2.2.1.1 hP wsO_D hS a 1 hws rfl hin hdg (fun H1 locs1 hP1 _ hS1 => ?_)
  rw [hset] at hP1
  exact kk ok H1 locs1 ls hP1 hS1 hl
theorem g_iret {v : Int32} (hm : mi.2.2.2 = some .int) (hdg : decode mi.2.1 pc = .ok (.ireturn, 1)) (ht : Tg Δ Γ (some (.int v)) n σ k c) : GG Δ mi Γ n k c σ pc lv [.int v] := fun ok H locs ls hP hS hl => by
  rw [show Γ.Q = _ from ht]
  have hlk : Γ.meth.locks = false := ok.2.2.2.2.2.2.1
  exact W.iret ok.1 ok.2.1 (ok.2.2.2.2.2.1.trans hm) (fun t hT hW => ⟨rfl, by rw [hT]; exact hP, hS.F hT⟩) hS.2.2 hdg hlk
theorem g_zret {v : Int32} (hm : mi.2.2.2 = some .boolean) (hv : v = 0 ∨ v = 1) (hdg : decode mi.2.1 pc = .ok (.ireturn, 1)) (ht : Tg Δ Γ (some (.int v)) n σ k c) : GG Δ mi Γ n k c σ pc lv [.int v] := fun ok H locs ls hP hS hl => by
  rw [show Γ.Q = _ from ht]
  have hlk : Γ.meth.locks = false := ok.2.2.2.2.2.2.1
  exact W.zret ok.1 ok.2.1 (ok.2.2.2.2.2.1.trans hm) (by rcases hv with rfl | rfl <;> rfl) (fun t hT hW => ⟨rfl, by rw [hT]; exact hP, hS.F hT⟩) hS.2.2 hdg hlk
theorem g_vret (hm : mi.2.2.2 = none) (hdg : decode mi.2.1 pc = .ok (.return_, 1)) (ht : Tg Δ Γ none n σ k c) : GG Δ mi Γ n k c σ pc lv [] := fun ok H locs ls hP hS hl => by
  rw [show Γ.Q = _ from ht]
  have hlk : Γ.meth.locks = false := ok.2.2.2.2.2.2.1
  exact W.vret ok.1 ok.2.1 (ok.2.2.2.2.2.1.trans hm) (fun t hT hW => ⟨rfl, by rw [hT]; exact hP, hS.F hT⟩) hS.2.2 hdg hlk
end Rows
