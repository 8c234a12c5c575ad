/-! what makes cells: objects, arrays, and the constructors' contracts -/
/-- a cell that is not yet there has the values that it will be born with -/
def Fresh (σ : St) (a : Nat) : Prop := (∀ j, σ.1 a j = 0) ∧ (∀ j, σ.2.1 a j = 0) ∧ ∀ j, σ.2.2 a j = .null
theorem fresh_fv {σ : St} {a : Nat} (h : Fresh σ a) {ci j : Nat} {ty : FieldType} (ht : tyF ci j = ty) (hn : ty ≠ .float ∧ ty ≠ .double) : defaultValue ty = fv ci σ a j := by
  unfold fv
  rw [ht]
  cases ty with
  | int => show Value.int 0 = .int (σ.1 a j); rw [h.1]
  | boolean => show Value.int 0 = .int (σ.1 a j); rw [h.1]
  | byte => show Value.int 0 = .int (σ.1 a j); rw [h.1]
  | char => show Value.int 0 = .int (σ.1 a j); rw [h.1]
  | short => show Value.int 0 = .int (σ.1 a j); rw [h.1]
  | long => show Value.long 0 = .long (σ.2.1 a j); rw [h.2.1]
  | float => exact absurd rfl hn.1
  | double => exact absurd rfl hn.2
  | object C => show Value.null = σ.2.2 a j; rw [h.2.2]
  | array t => show Value.null = σ.2.2 a j; rw [h.2.2]
theorem wsO_succ {ca : FieldType → ClassId} {base n : Nat} {σ : St} (hn : n < 142) (hd : n + 1 = 142 → dyO ca base σ = []) : wsO ca base (n + 1) σ = wsO ca base n σ ++ [(base + n, cellO ca σ n)] := by
  have e1 : dyN ca base n σ = [] := if_neg (by omega)
  have e2 : dyN ca base (n + 1) σ = [] := by
    unfold dyN
    by_cases h : n + 1 = 142
    · rw [if_pos h]; exact hd h
    · rw [if_neg h]
  unfold wsO
  rw [e1, e2, List.append_nil, List.append_nil, List.range_succ, List.map_append]
  rfl
/-- the heap is just as large as the cells that we know -/
theorem size_at {Δ : Dx} {Γ : Cx} {n k c : Nat} {σ : St} {T : State} {H : Heap} {locs : List Loc} (X : Stand Γ.p Δ.1 Γ.e Γ.R Γ.s Γ.m Γ.args Γ.below Γ.meth Γ.c T locs k c) (hT : T.heap = H) (hP : va_P Δ.2.1 vcl (Δ.W n σ) H) (hS : va_S Δ.A Γ.s.heap H locs) (hz : Γ.s.heap.size + k = Δ.ba + n) (hb : Δ.ba ≤ Γ.s.heap.size) : H.size = Δ.ba + n := by
  have h1 := X.heapSize
  rw [hT] at h1
  have h2 : Δ.ba + n ≤ H.size := by
    cases n with
    | zero => exact Nat.le_trans hb hS.1
    | succ n =>
      have := (hP n _ (wsO_at (Nat.lt_succ_self n))).lt
      have h3 : Δ.ba + n < H.size := this
      omega
  omega
/-- the entry of a 'new' -/
def Nw (own : String) (idx ci N : Nat) : Prop := ∃ (C : String) (T : u_T), vcl[ci]? = some (C, T, N) ∧ N = nmF ci ∧ (∀ w ∈ u_ws C T N, w ∈ tb) ∧ (∀ j, j < N → parseFieldDescriptor (T j).2.2.1 = some (tyF ci j)) ∧ (∀ j, j < N → tyF ci j ≠ .float ∧ tyF ci j ≠ .double) ∧ Cond.classLink own idx C ∈ tb ∧ Cond.instantiable C N ∈ tb ∧ Cond.initialized C ∈ tb
section MakeRows
variable {Δ : Dx} {mi mj : MI} {Γ : Cx} {n k c : Nat} {σ σ' : St} {pc : Nat} {lv : List (Option Value)} {rest st As : List Value} {idx nA j n' mc ms : Nat} {r : Option Value}
theorem g_new {ci N : Nat} (hdg : decode mi.2.1 pc = .ok (.new idx, 3)) (hw : Nw mi.1.cls idx ci N) (hsh : sh n = .inr ci) (hfr : Fresh σ n) (hz : Γ.s.heap.size + k = Δ.ba + n) (hc : k + 1 ≤ Γ.R.cells) (hs : c + N ≤ Γ.R.slots)
    (kk : GG Δ mi Γ (n + 1) (k + 1) (c + N) σ (pc + 3) lv (.ref (Δ.ba + n) :: st)) (hn2 : n < 142 := by decide) (hdy : n + 1 = 142 → dyO Δ.2.2.1 Δ.2.2.2.1 σ = [] := by intro h; exact absurd h (by decide)) : GG Δ mi Γ n k c σ pc lv st := fun ok H locs ls hP hS hl => by
  obtain ⟨hx, hb, hml, hown, hts, hr, hlk, hK, hnm, hsz, hf, hlo⟩ := id ok
  obtain ⟨C, T, hcl, hN, hin, hty, hff, w1, w2, w3⟩ := hw
  intro T0 hT X
  have hsize := size_at X hT hP hS hz hsz
  have hKn := hK.1.1 ci _ hcl
  revert T0
  show W Γ.p Δ.1 Γ.e Γ.R Γ.s Γ.m Γ.args Γ.below Γ.meth Γ.c H locs k c Γ.Q (F0 Γ.m pc ls st)
  refine W.newcK hx hb hown (hts _ w1) (hts _ w2) (hts _ w3) rfl hdg hc hs hKn.2.1 hsize fun H1 kC hkC e1 z1 o1 => ?_
  have hk : ∀ (k : Nat) (x : Nat × va_E), (Δ.W n σ)[k]? = some x → H1[x.1]? = H[x.1]? := fun k x hx => o1 x.1 (by rw [← hsize]; exact (hP k x hx).lt)
  refine kk ok H1 locs ls ?_ ⟨Nat.le_trans hS.1 (by omega), fun x h1 h2 => (o1 x (by rw [← hsize]; exact Nat.lt_of_lt_of_le h1 hS.1)).trans (hS.2.1 x h1 h2), hS.2.2⟩ hl
  rw [show Δ.W (n + 1) σ = Δ.W n σ ++ [(Δ.ba + n, cellO Δ.2.2.1 σ n)] from wsO_succ hn2 hdy]
  refine (hP.kept hk).app (fun k x hx => ?_)
  have hz : k < 1 := (List.getElem?_eq_some_iff.mp hx).1
  rw [show k = 0 by omega] at hx
  cases hx
  rw [cellO_ob hsh]
  refine ⟨_, hcl, (u_born (tyF ci) hts hin hKn hkC e1 hty).to (fun j hj => ?_)⟩
  rw [fresh_fv hfr rfl (hff j hj)]
  unfold vp_V
  rw [List.getD_eq_getElem?_getD, List.getElem?_map, List.getElem?_range (by omega)]
  rfl
theorem g_newa {atype : ArrayType} {ty : FieldType} {N t : Nat} {v : Int32} (hdg : decode mi.2.1 pc = .ok (.newarray atype, 2)) (hty : newarray.typeOf atype = ty) (hw : Cond.arrayClass ty ∈ tb) (ht : (tysO Δ.2.2.1)[t]? = some (Δ.2.2.1 ty, ty)) (hsh : sh n = .inl (ty, N)) (hv : ¬ v < 0) (hN : v.toNatClampNeg = N) (hby : N * componentBytes ty ≤ 536870912) (hfr : Fresh σ n) (hz : Γ.s.heap.size + k = Δ.ba + n) (hc : k + 1 ≤ Γ.R.cells) (hs : c + N ≤ Γ.R.slots) (hpr : ty = .int ∨ ty = .long ∨ ty = .char ∨ ty = .byte)
    (kk : GG Δ mi Γ (n + 1) (k + 1) (c + N) σ (pc + 2) lv (.ref (Δ.ba + n) :: st)) (hn2 : n < 142 := by decide) (hdy : n + 1 = 142 → dyO Δ.2.2.1 Δ.2.2.2.1 σ = [] := by intro h; exact absurd h (by decide)) : GG Δ mi Γ n k c σ pc lv (.int v :: st) := fun ok H locs ls hP hS hl => by
  obtain ⟨hx, hb, hml, hown, hts, hr, hlk, hK, hnm, hsz, hf, hlo⟩ := id ok
  subst hty
  intro T0 hT X
  have hsize := size_at X hT hP hS hz hsz
  revert T0
  show W Γ.p Δ.1 Γ.e Γ.R Γ.s Γ.m Γ.args Γ.below Γ.meth Γ.c H locs k c Γ.Q (F0 Γ.m pc ls (.int v :: st))
  refine va_newaK hx hb (hts _ hw) rfl hdg rfl hv hN hby hc hs hsize fun H1 cA e1 z1 o1 hAr hNm => ?_
  have hk : ∀ (k : Nat) (x : Nat × va_E), (Δ.W n σ)[k]? = some x → H1[x.1]? = H[x.1]? := fun k x hx => o1 x.1 (by rw [← hsize]; exact (hP k x hx).lt)
  have hcA : cA = Δ.2.2.1 (newarray.typeOf atype) := by
    have h1 := (hK.1.2 t _ ht).2
    have h2 : Γ.s.vm.findClass ("[" ++ (newarray.typeOf atype).toString) = some (Δ.2.2.1 (newarray.typeOf atype)) := by
      unfold va_RA at h1
      rcases hpr with h | h | h | h <;> rw [h] at h1 ⊢ <;> exact h1
    exact Option.some.inj (hNm.symm.trans h2)
  refine kk ok H1 locs ls ?_ ⟨Nat.le_trans hS.1 (by omega), fun x h1 h2 => (o1 x (by rw [← hsize]; exact Nat.lt_of_lt_of_le h1 hS.1)).trans (hS.2.1 x h1 h2), hS.2.2⟩ hl
  rw [show Δ.W (n + 1) σ = Δ.W n σ ++ [(Δ.ba + n, cellO Δ.2.2.1 σ n)] from wsO_succ hn2 hdy]
  refine (hP.kept hk).app (fun k x hx => ?_)
  have hz : k < 1 := (List.getElem?_eq_some_iff.mp hx).1
  rw [show k = 0 by omega] at hx
  cases hx
  show va_at _ _ (Δ.ba + n, cellO Δ.2.2.1 σ n) H1
  have hcell : cellO Δ.2.2.1 σ n = .inl (cA, N, aco (newarray.typeOf atype) σ n) := by
    unfold cellO
    rw [hsh, hcA]
  rw [hcell]
  show H1[Δ.ba + n]? = some (vp_cell _ _)
  rw [e1]
  congr 1
  rcases hpr with h | h | h | h <;> rw [h]
  · rw [show aco FieldType.int σ n = .inl (σ.1 n) from rfl, vp_cell_i, show σ.1 n = fun _ => 0 from funext hfr.1]; rfl
  · rw [show aco FieldType.long σ n = .inr (.inl (σ.2.1 n)) from rfl, vp_cell_l, show σ.2.1 n = fun _ => 0 from funext hfr.2.1]; rfl
  · rw [show aco FieldType.char σ n = .inl (σ.1 n) from rfl, vp_cell_i, show σ.1 n = fun _ => 0 from funext hfr.1]; rfl
  · rw [show aco FieldType.byte σ n = .inl (σ.1 n) from rfl, vp_cell_i, show σ.1 n = fun _ => 0 from funext hfr.1]; rfl
/-- a constructor's contract -/
def PcC (Δ : Dx) (n : Nat) (as : List Value) (σ : St) : Array Value → State → Prop := fun v U => Pcx Δ n as σ v U ∧ U.heap.size = Δ.ba + n
def EvC (Δ : Dx) (k : Nat) (mi : MI) (n : Nat) (as : List Value) (σ : St) (n' : Nat) (σ' : St) (mc ms : Nat) : Prop :=
  Met Δ.1 mi.1 (wsM mi) (rmk k mc ms) (PcC Δ n as σ) (Qcx Δ none n' σ') mc ms Δ.A
theorem evC_of {as : List Value} (hy : plainName mi.1.cls = true) (hlen : (lg_sl as).length ≤ mi.2.2.1)
    (body : ∀ Γ : Cx, Γ.k = k → Γ.R = rmk k mc ms → Tg Δ Γ none n' σ' mc ms → Γ.s.heap.size = Δ.ba + n → GG Δ mi Γ n 0 0 σ 0 (lvE as mi.2.2.1) []) : EvC Δ k mi n as σ n' σ' mc ms := by
  refine Met.ofW (cc := mi.2.1) (maxL := mi.2.2.1) (ret := mi.2.2.2) hy rfl ?_
  intro p e s m args below meth c s₁ B hml hv
  obtain ⟨⟨rfl, hP, hK, hsz⟩, hn⟩ := hv
  have hts := atoms_spec (ws := wsM mi) B.pre
  have hb := body ((p, e, rmk k mc ms, s), (m, as.toArray, below, meth, c), MQ below (Qcx Δ none n' σ') as.toArray s mc ms Δ.A, k) rfl rfl rfl hn
    ⟨B.exec, B.bytes, hml, findClass_of_methodNamed B.named, fun w h => hts w (List.mem_cons_of_mem _ h), B.returns, B.notSynchronized, hK, (name_of_methodNamed B.named B.method).1, hsz, Nat.le_refl _, Nat.le_refl _⟩
  rw [lg_entry_eq]
  have hl := lv_entry as (n := mi.2.2.1) hlen
  refine hb s.heap [] _ hP va_S.rf ⟨hl.1, hl.2.1, fun i v h => ?_⟩
  have := lv0_mem as 0 i v (lvE_at h)
  rw [Nat.zero_add] at this
  exact hl.2.2 (i, v) this
theorem PcC.blind {as : List Value} : FrameBlind (PcC Δ n as σ) := fun a U g mk q => ⟨Pcx.blind a U g mk q.1, q.2⟩
/-- the entry of a constructor's call -/
def CI (own : String) (idx : Nat) (mj : MI) (nA : Nat) : Prop := (mj.1.cls ≠ "java/lang/invoke/MethodHandle" ∧ mj.1.cls ≠ "java/lang/invoke/VarHandle" ∧ (parseMethodDescriptor mj.1.desc).map (fun d => d.parameters.length) = some nA) ∧ mj.1.name = "<init>" ∧ mj.2.2.2 = none ∧ Cond.methodLink own idx mj.1 ∈ tb ∧ Cond.instanceMethod mj.1 ∈ tb ∧ Cond.initialized mj.1.cls ∈ tb ∧ Cond.code mj.1 mj.2.1 mj.2.2.1 mj.2.2.2 ∈ tb ∧ mj.2.2.1 ≤ 41
theorem g_callI {b : Nat} (hdg : decode mi.2.1 pc = .ok (.invokespecial idx, 3)) (hc : CI mi.1.cls idx mj nA) (hE : EvC Δ j mj n (.ref b :: As) σ n' σ' mc ms) (hn : As.length = nA) (hj : j < Γ.k) (hw : (rest.map fun v => v.category).sum ≤ 8) (hfit : k + mc ≤ Γ.R.cells ∧ c + ms ≤ Γ.R.slots) (hst : st = As.reverse ++ .ref b :: rest) (hz : Γ.s.heap.size + k = Δ.ba + n)
    (kk : GG Δ mi Γ n' (k + mc) (c + ms) σ' (pc + 3) lv rest) : GG Δ mi Γ n k c σ pc lv st := fun ok H locs ls hP hS hl => by
  subst hst
  obtain ⟨hx, hb, hml, hown, hts, hr, hlk, hK, hnm, hsz, hf, hlo⟩ := id ok
  obtain ⟨hd, hi, hret, w1, w2, w4, w5, hmx⟩ := hc
  intro T hT2 X
  have hsize := size_at X hT2 hP hS hz hsz
  have hcb : CallB Γ.R Γ.s Γ.args mi.1.cls idx mj.1 mj.2.1 mj.2.2.1 none (wsM mj) (rmk j mc ms) mc ms nA := callB_of nA hts (tb_wsM w5) (by rw [← hret]) rfl rfl (hts _ w4) (hts _ w1) hd ⟨by show j + 1 ≤ Γ.R.frames; omega, by show 8 + (mj.2.2.1 + 11) + 60 * j ≤ Γ.R.locals; omega⟩
  have run := va_runI (Ts := tb) (g := F0 Γ.m pc ls (As.reverse ++ .ref b :: rest)) (locs := locs) (cells := k) (slots := c) (rest := rest) (As := As) (b := b) (H := H) (below := Γ.below) (meth := Γ.meth) (e := Γ.e) (R := Γ.R) ⟨hx, hb, hml, hown, hts⟩ hE ⟨hcb, hi, hts _ w2⟩
    ⟨PcC.blind, fun U hU hW => ⟨⟨rfl, by rw [hU]; exact hP, hK.at hW hU hS hsz, by rw [hU]; exact Nat.le_trans hsz hS.1⟩, by rw [hU]; exact hsize⟩⟩ rfl hn hl.1 rfl (by rw [show (F0 Γ.m pc ls (As.reverse ++ .ref b :: rest)).monitorRoom = 0 from rfl]; omega) hdg hfit
  obtain ⟨v, st₀, t, T', L, h0, X', hL, e1, e2, ⟨hv, hP1, hz, hk⟩, st2⟩ := run T hT2 X
  cases hv
  rw [h0] at hz hk
  obtain ⟨t2, a1, b1⟩ := g_back ok hS hl e1 hP1 hz hk hL kk T' rfl X'
  exact ⟨t2, st2 t2 a1, b1⟩
/-- Object's constructor -/
theorem g_objInit {b : Nat} (hdg : decode mi.2.1 pc = .ok (.invokespecial idx, 3)) (w1 : Cond.methodLink mi.1.cls idx Lib.objectInit ∈ tb) (w2 : Cond.instanceMethod Lib.objectInit ∈ tb) (w3 : Cond.code Lib.objectInit ⟨#[0xb1]⟩ 1 none ∈ tb) (h1 : 1 ≤ Γ.k) (hw : (rest.map fun v => v.category).sum ≤ 8) (kk : GG Δ mi Γ n k c σ (pc + 3) lv rest) : GG Δ mi Γ n k c σ pc lv (.ref b :: rest) := fun ok H locs ls hP hS hl => by
  obtain ⟨hx, hb, hml, hown, hts, hr, hlk, hK, hnm, hsz, hf, hlo⟩ := id ok
  exact W.objInit hx hb hown (hts _ w1) (hts _ w2) (hts _ w3) (g := F0 Γ.m pc ls (.ref b :: rest)) rfl (by rw [hml]; exact hl.1) rfl hdg (by omega) (by show 2 * 0 + (rest.map fun v => v.category).sum + 12 ≤ Γ.R.locals; omega) (kk ok H locs ls hP hS hl)
end MakeRows
