theorem shr_0 (x : Int32) : x >>> ((0 : Int32) &&& 31) = x := by
  rw [show (0 : Int32) &&& 31 = 0 from by decide]
  simp
/-- the char of a byte -/
def ch8 (b : Int32) : Int32 := ((b &&& 255).toUInt32 % 65536).toInt32
theorem ch8_fit (b : Int32) : narrow .char (.int (ch8 b)) = .int (ch8 b) := by
  show Value.int ((ch8 b).toUInt32 % 65536).toInt32 = _
  congr 1
  unfold ch8
  rw [UInt32.toUInt32_toInt32]
  congr 1
  rw [← UInt32.toNat_inj]
  simp
theorem g_nret {Δ : Dx} {mi : MI} {Γ : Cx} {n k c : Nat} {σ : St} {pc : Nat} {lv : List (Option Value)} {v : Int32} {ty : FieldType} (hm : mi.2.2.2 = some ty) (hv : narrow ty (.int v) = .int v) (hdg : decode mi.2.1 pc = .ok (.ireturn, 1)) (ht : Tg Δ Γ (some (.int v)) n σ k c) : GG Δ mi Γ n k c σ pc lv [.int v] := fun ok H locs ls hP hS hl => by
  rw [show Γ.Q = _ from ht]
  have hlk : Γ.meth.locks = false := ok.2.2.2.2.2.2.1
  exact W.zret ok.1 ok.2.1 (ok.2.2.2.2.2.1.trans hm) hv (fun t hT hW => ⟨rfl, by rw [hT]; exact hP, hS.F hT⟩) hS.2.2 hdg hlk
/-! strings: old cells, as the start has them; length and charAt -/
abbrev FLc : List Cond := flatC (Jvm.Cond.and given_1 narrow_1)
def strA (Δ : Dx) (own : String) (k : Nat) : Nat := match (Term.string own k).eval Δ.a0 Δ.s0 none [] Δ.s0 with
  | some (.ref a) => a
  | _ => 0
def Sg (Δ : Dx) (a : Nat) (bs : List Int32) : Prop := bs.length < 2 ^ 31 ∧ ∃ v, va_O "java/lang/String" a Δ.A Δ.s0 Δ.s0.heap ∧ va_OF "java/lang/String" "coder" "B" (.int 0) a Δ.A Δ.s0 Δ.s0.heap ∧ va_OF "java/lang/String" "value" "[B" (.ref v) a Δ.A Δ.s0 Δ.s0.heap ∧ va_T .byte v bs.length (fun j => .int (bs.getD j 0)) Δ.A Δ.s0 Δ.s0.heap
theorem kx_fl {Δ : Dx} {U : State} (h : Kx Δ U) {i : Nat} {w : Cond} (hi : FLc[i]? = some w) : w.before Δ.a0 Δ.s0 = true := flat_of_before _ h.2.2.1 _ (List.mem_of_getElem? hi)
theorem sg_of {Δ : Dx} {U : State} (h : Kx Δ U) {own : String} {k i : Nat} {bs : List Int32} (hl : bs.length < 2 ^ 31) (f0 : FLc[i]? = some (Cond.exactly (.string own k) "java/lang/String")) (f1 : FLc[i + 1]? = some (Cond.eq (.field (.string own k) "java/lang/String" "coder" "B") (.int 0))) (f2 : FLc[i + 2]? = some (Cond.arrayOf (.field (.string own k) "java/lang/String" "value" "[B") .byte)) (f3 : FLc[i + 3]? = some (Cond.eq (.length (.field (.string own k) "java/lang/String" "value" "[B")) (.int (Int32.ofNat bs.length))))
    (f4 : ∀ j, j < bs.length → FLc[i + 4 + j]? = some (Cond.eq (.elem (.field (.string own k) "java/lang/String" "value" "[B") (.int (Int32.ofNat j))) (.int (bs.getD j 0)))) : Sg Δ (strA Δ own k) bs := by
  have hA : ∀ a : Nat, a < Δ.s0.heap.size → ¬ Δ.A a := fun a ha q => by
    rw [h.2.2.2.2.2.1] at ha
    exact absurd ha (Nat.not_lt.mpr q)
  obtain ⟨a, c, cA, kA, q1, q2, q3, q4, q5, q6, -⟩ := Cond.exactly_spec (args := Δ.a0) (first := Δ.s0) (o := none) (s := Δ.s0) (idx := []) (t := .string own k) (cls := "java/lang/String") (kx_fl h f0)
  obtain ⟨t, ht, hT⟩ := va_Tof (f := fun j => .int (bs.getD j 0)) (A := Δ.A) hl (kx_fl h f2) (va_eqt (kx_fl h f3)) (fun j hj => va_eqt (kx_fl h (f4 j hj))) hA
  have e : strA Δ own k = a := by unfold strA; rw [q1]
  rw [e]
  exact ⟨hl, t, ⟨cA, q3, q5, by rw [q6]; exact q2, hA a (Array.getElem?_eq_some_iff.mp q3).1⟩, vk_OFof q1 (va_eqt (kx_fl h f1)) hA, vk_OFof q1 ht hA, hT⟩
theorem kx_strR {Δ : Dx} {U : State} (h : Kx Δ U) {own tx : String} {k i : Nat} (hw : Cond.stringRef own k tx ∈ lw_tbl) (f0 : FLc[i]? = some (Cond.exactly (.string own k) "java/lang/String")) : vk_R own k tx (strA Δ own k) U := by
  obtain ⟨a, c, cA, kA, q1, -⟩ := Cond.exactly_spec (args := Δ.a0) (first := Δ.s0) (o := none) (s := Δ.s0) (idx := []) (t := .string own k) (cls := "java/lang/String") (kx_fl h f0)
  have e : strA Δ own k = a := by unfold strA; rw [q1]
  rw [e]
  exact (vk_R.of (h.2.2.2.1 _ hw) q1).warm h.2.2.2.2.1
section StrRows
variable {Δ : Dx} {mi : MI} {Γ : Cx} {n k c : Nat} {σ : St} {pc : Nat} {lv : List (Option Value)} {rest : List Value} {idx : Nat}
theorem g_ldcS {tx : String} {i : Nat} (hdg : decode mi.2.1 pc = .ok (.ldc idx, 2)) (hw : Cond.stringRef mi.1.cls idx tx ∈ lw_tbl) (f0 : FLc[i]? = some (Cond.exactly (.string mi.1.cls idx) "java/lang/String")) (kk : GG Δ mi Γ n k c σ (pc + 2) lv (.ref (strA Δ mi.1.cls idx) :: rest)) : GG Δ mi Γ n k c σ pc lv rest := fun ok H locs ls hP hS hl => va_ldcS ok.1 ok.2.1 ok.2.2.2.1 (kx_strR ok.2.2.2.2.2.2.2.1 hw f0) hdg (kk ok H locs ls hP hS hl)
theorem kx_kept {U : State} (h : Kx Δ U) : ∀ a : Nat, a < Δ.s0.heap.size → ¬ Δ.A a → U.heap[a]? = Δ.s0.heap[a]? := fun a ha _ => h.2.2.2.2.2.2 a (by rw [← h.2.2.2.2.2.1]; exact ha)
theorem g_oldf {o nm d : String} {q : Nat} {v : Value} (hdg : decode mi.2.1 pc = .ok (.getfield idx, 3)) (hE : va_OF o nm d v q Δ.A Δ.s0 Δ.s0.heap) (hlink : Cond.fieldLink mi.1.cls idx o nm d ∈ tb) (kk : GG Δ mi Γ n k c σ (pc + 3) lv (v :: rest)) : GG Δ mi Γ n k c σ pc lv (.ref q :: rest) := fun ok H locs ls hP hS hl => by
  have hK := ok.2.2.2.2.2.2.2.1
  exact vk_getf ok.1 ok.2.1 ((va_OF.moved hK.2.2.2.2.1.alike hE).kept (kx_kept hK)) hS ok.2.2.2.1 (ok.2.2.2.2.1 _ hlink) (fun _ h => h) hdg (kk ok H locs ls hP hS hl)
theorem g_oldlen {t N : Nat} {f : Nat → Value} {v : Int32} (hdg : decode mi.2.1 pc = .ok (.arraylength, 1)) (hT : va_T .byte t N f Δ.A Δ.s0 Δ.s0.heap) (hv : Int32.ofNat N = v) (kk : GG Δ mi Γ n k c σ (pc + 1) lv (.int v :: rest)) : GG Δ mi Γ n k c σ pc lv (.ref t :: rest) := fun ok H locs ls hP hS hl => by
  have hK := ok.2.2.2.2.2.2.2.1
  exact va_tlen ok.1 ok.2.1 ((va_T.moved hK.2.2.2.2.1.alike hT).kept (kx_kept hK)) hS hv hdg (kk ok H locs ls hP hS hl)
theorem g_oldb {t N : Nat} {f : Nat → Value} {i : Int32} {v : Value} (hdg : decode mi.2.1 pc = .ok (.baload, 1)) (hT : va_T .byte t N f Δ.A Δ.s0 Δ.s0.heap) (hin : vp_in i N) (hv : f i.toNatClampNeg = v) (kk : GG Δ mi Γ n k c σ (pc + 1) lv (v :: rest)) : GG Δ mi Γ n k c σ pc lv (.int i :: .ref t :: rest) := fun ok H locs ls hP hS hl => by
  have hK := ok.2.2.2.2.2.2.2.1
  exact va_tb ok.1 ok.2.1 ((va_T.moved hK.2.2.2.2.1.alike hT).kept (kx_kept hK)) hS hin hv hdg (kk ok H locs ls hP hS hl)
theorem g_gets {C nm d : String} {i : Nat} {v : Int32} (hdg : decode mi.2.1 pc = .ok (.getstatic idx, 3)) (w1 : Cond.laysStatic C nm d ∈ lw_tbl) (w2 : Cond.initialized C ∈ lw_tbl) (f : FLc[i]? = some (Cond.eq (.static C nm d) (.int v))) (hlink : Cond.fieldLink mi.1.cls idx C nm d ∈ tb) (kk : GG Δ mi Γ n k c σ (pc + 3) lv (.int v :: rest)) : GG Δ mi Γ n k c σ pc lv rest := fun ok H locs ls hP hS hl => by
  have hK := ok.2.2.2.2.2.2.2.1
  exact va_gets ok.1 ok.2.1 (kx_static hK w1 w2 (va_eqt (kx_fl hK f))) hS ok.2.2.2.1 (ok.2.2.2.2.1 _ hlink) (fun _ h => h) hdg (kk ok H locs ls hP hS hl)
theorem g_getsR {C nm d : String} {i : Nat} (hdg : decode mi.2.1 pc = .ok (.getstatic idx, 3)) (w1 : Cond.laysStatic C nm d ∈ lw_tbl) (w2 : Cond.initialized C ∈ lw_tbl) (f : FLc[i]? = some (Cond.isRef (.static C nm d))) (hlink : Cond.fieldLink mi.1.cls idx C nm d ∈ tb) (kk : ∀ v : Value, (v = .null ∨ ∃ q, v = .ref q) → GG Δ mi Γ n k c σ (pc + 3) lv (v :: rest)) : GG Δ mi Γ n k c σ pc lv rest := fun ok H locs ls hP hS hl => by
  have hK := ok.2.2.2.2.2.2.2.1
  have hr := kx_fl hK f
  cases hv : (Term.static C nm d).eval Δ.a0 Δ.s0 none [] Δ.s0 with
  | none => simp [Cond.before, Cond.holds, Cond.value, hv] at hr
  | some v =>
    cases v with
    | ref q => exact va_gets ok.1 ok.2.1 (kx_static hK w1 w2 hv) hS ok.2.2.2.1 (ok.2.2.2.2.1 _ hlink) (fun _ h => h) hdg (kk (.ref q) (Or.inr ⟨q, rfl⟩) ok H locs ls hP hS hl)
    | null => exact va_gets ok.1 ok.2.1 (kx_static hK w1 w2 hv) hS ok.2.2.2.1 (ok.2.2.2.2.1 _ hlink) (fun _ h => h) hdg (kk .null (Or.inl rfl) ok H locs ls hP hS hl)
    | _ => simp [Cond.before, Cond.holds, Cond.value, hv] at hr
end StrRows
section StrCalls
variable {Δ : Dx} {mi mj : MI} {Γ : Cx} {n k c : Nat} {σ σ' : St} {pc : Nat} {lv : List (Option Value)} {rest st As : List Value} {idx nA j n' mc ms : Nat} {r : Option Value}
/-- a call on a string -/
theorem g_callStr {a : Nat} {bs : List Int32} (hdg : decode mi.2.1 pc = .ok (.invokevirtual idx, 3)) (hc : CV mi.1.cls idx "java/lang/String" mj nA) (hg : Sg Δ a bs) (hE : EvN Δ j mj n (.ref a :: As) σ r n' σ' mc ms) (hn : As.length = nA) (hj : j < Γ.k) (hw : (rest.map fun v => v.category).sum ≤ 8) (hfit : k + mc ≤ Γ.R.cells ∧ c + ms ≤ Γ.R.slots) (hst : st = As.reverse ++ .ref a :: rest)
    (kk : GG Δ mi Γ n' (k + mc) (c + ms) σ' (pc + 3) lv (r.toList ++ rest)) : GG Δ mi Γ n k c σ pc lv st := fun ok H locs ls hP hS hl => by
  subst hst
  obtain ⟨hx, hb, hml, hown, hts, hr, hlk, hK, hnm, hsz, hf, hlo⟩ := id ok
  obtain ⟨hd, w1, w2, w3, w4, w5, hmx⟩ := hc
  have hT : GoodIn tb (wsV mi.1.cls idx "java/lang/String" mj.1 (wsM mj)) := fun w hw => by
    unfold wsV at hw
    rcases List.mem_append.mp hw with h | h
    · have hm : w ∈ tb := by
        simp only [List.mem_cons, List.not_mem_nil, or_false] at h
        rcases h with rfl | rfl | rfl | rfl
        · exact w1
        · exact w2
        · exact w3
        · exact w4
      exact ⟨hm, good_of_word (tb_good _ hm)⟩
    · exact tb_wsM w5 w h
  have hrecv : ∃ cell : Cell, H[a]? = some cell ∧ cell.vm.isStatics = false ∧ Γ.s.vm.findClass "java/lang/String" = some cell.cls := by
    obtain ⟨-, v, h0, -⟩ := hg
    obtain ⟨cell, h1, h2, h3, -⟩ := ((va_O.moved hK.2.2.2.2.1.alike h0).kept (kx_kept hK)).kept hS.2.1
    exact ⟨cell, h1, h2, h3⟩
  have run := va_runV (Ts := tb) (g := F0 Γ.m pc ls (As.reverse ++ .ref a :: rest)) (locs := locs) (cells := k) (slots := c) (rest := rest) (As := As) (b := a) (H := H) (below := Γ.below) (meth := Γ.meth) (e := Γ.e) (R := Γ.R) ⟨hx, hb, hml, hown, hts⟩ hE (cwV nA hts hT rfl rfl rfl hd ⟨by show j + 1 ≤ Γ.R.frames; omega, by show 8 + (mj.2.2.1 + 11) + 60 * j ≤ Γ.R.locals; omega⟩)
    ⟨Pcx.blind, hrecv, fun U hU hW => ⟨rfl, by rw [hU]; exact hP, hK.at hW hU hS hsz, by rw [hU]; exact Nat.le_trans hsz hS.1⟩⟩ rfl hn hl.1 rfl (by rw [show (F0 Γ.m pc ls (As.reverse ++ .ref a :: rest)).monitorRoom = 0 from rfl]; omega) hdg hfit
  intro T hT2 X
  obtain ⟨v, st₀, t, T', L, h0, X', hL, e1, e2, ⟨hv, hP1, hz, hk⟩, st2⟩ := run T hT2 X
  cases hv
  rw [h0] at hz hk
  obtain ⟨t2, a1, b1⟩ := g_back ok hS hl e1 hP1 hz hk hL kk T' rfl X'
  exact ⟨t2, st2 t2 a1, b1⟩
end StrCalls
theorem cs_1 : Cond.laysStatic "java/lang/String" "COMPACT_STRINGS" "Z" ∈ lw_tbl := List.mem_append_right _ (List.mem_of_getElem? (i := 60) (by decide +kernel))
theorem cs_2 : Cond.initialized "java/lang/String" ∈ lw_tbl := List.mem_append_right _ (List.mem_of_getElem? (i := 3) (by decide +kernel))
theorem cs_3 : FLc[4]? = some (Cond.eq (.static "java/lang/String" "COMPACT_STRINGS" "Z") (.int 1)) := by decide +kernel
theorem cs_4 : Cond.laysStatic "jdk/internal/util/Preconditions" "SIOOBE_FORMATTER" "Ljava/util/function/BiFunction;" ∈ lw_tbl := List.mem_append_right _ (List.mem_of_getElem? (i := 76) (by decide +kernel))
theorem cs_5 : Cond.initialized "jdk/internal/util/Preconditions" ∈ lw_tbl := List.mem_append_right _ (List.mem_of_getElem? (i := 5) (by decide +kernel))
theorem cs_6 : FLc[5]? = some (Cond.isRef (.static "jdk/internal/util/Preconditions" "SIOOBE_FORMATTER" "Ljava/util/function/BiFunction;")) := by decide +kernel
theorem fs_Str_38 : Cond.fieldLink "java/lang/String" 38 "java/lang/String" "COMPACT_STRINGS" "Z" ∈ tb := tk1 59 rfl rfl
theorem fs_Str_1053 : Cond.fieldLink "java/lang/String" 1053 "jdk/internal/util/Preconditions" "SIOOBE_FORMATTER" "Ljava/util/function/BiFunction;" ∈ tb := tk1 75 rfl rfl
theorem fs_Asb_18 : Cond.fieldLink "java/lang/AbstractStringBuilder" 18 "java/lang/String" "COMPACT_STRINGS" "Z" ∈ tb := tk2 229 rfl rfl
theorem fs_Str_9 : Cond.fieldLink "java/lang/String" 9 "java/lang/String" "value" "[B" ∈ tb := tk5 196 rfl rfl
theorem fs_Str_15 : Cond.fieldLink "java/lang/String" 15 "java/lang/String" "coder" "B" ∈ tb := tk5 197 rfl rfl
theorem ev_Str_coder {Δ : Dx} {n : Nat} {σ : St} {a : Nat} {bs : List Int32} (hg : Sg Δ a bs) : EvN Δ 0 m_Str_coder n [.ref a] σ (some (.int 0)) n σ 0 0 := by
  obtain ⟨-, v, h0, h1, h2, h3⟩ := hg
  refine ev_of (by decide) (Nat.le_of_ble_eq_true rfl) (fun Γ hk hR hT => ?_)
  refine g_gets (pc := 0) (dd d_Str_coder 0 rfl) cs_1 cs_2 cs_3 fs_Str_38 ?_
  refine g_ifeq (pc := 3) (tgt := 13) (dd d_Str_coder 1 rfl) (by decide) (fun q => absurd q (by decide)) (fun _ => ?_)
  refine g_aload_n (pc := 6) (dd d_Str_coder 2 rfl) rfl ?_
  refine g_oldf (pc := 7) (dd d_Str_coder 3 rfl) h1 fs_Str_15 ?_
  refine g_goto (pc := 10) (tgt := 14) (dd d_Str_coder 4 rfl) (by decide) ?_
  exact g_nret (pc := 14) rfl (by decide) (dd d_Str_coder 6 rfl) hT
theorem ev_Str_isLatin1 {Δ : Dx} {n : Nat} {σ : St} {a : Nat} {bs : List Int32} (hg : Sg Δ a bs) : EvN Δ 0 m_Str_isLatin1 n [.ref a] σ (some (.int 1)) n σ 0 0 := by
  obtain ⟨-, v, h0, h1, h2, h3⟩ := hg
  refine ev_of (by decide) (Nat.le_of_ble_eq_true rfl) (fun Γ hk hR hT => ?_)
  refine g_gets (pc := 0) (dd d_Str_isLatin1 0 rfl) cs_1 cs_2 cs_3 fs_Str_38 ?_
  refine g_ifeq (pc := 3) (tgt := 17) (dd d_Str_isLatin1 1 rfl) (by decide) (fun q => absurd q (by decide)) (fun _ => ?_)
  refine g_aload_n (pc := 6) (dd d_Str_isLatin1 2 rfl) rfl ?_
  refine g_oldf (pc := 7) (dd d_Str_isLatin1 3 rfl) h1 fs_Str_15 ?_
  refine g_ifne (pc := 10) (tgt := 17) (dd d_Str_isLatin1 4 rfl) (by decide) (fun q => absurd rfl q) (fun _ => ?_)
  refine g_iconst (pc := 13) (v := 1) (dd d_Str_isLatin1 5 rfl) (by decide) ?_
  refine g_goto (pc := 14) (tgt := 18) (dd d_Str_isLatin1 6 rfl) (by decide) ?_
  exact g_zret (pc := 18) rfl (Or.inr rfl) (dd d_Str_isLatin1 8 rfl) hT
theorem ev_Str_length {Δ : Dx} {n : Nat} {σ : St} {a : Nat} {bs : List Int32} (hg : Sg Δ a bs) : EvN Δ 1 m_Str_length n [.ref a] σ (some (.int (nI bs.length))) n σ 0 0 := by
  obtain ⟨hl, v, h0, h1, h2, h3⟩ := id hg
  refine ev_of (by decide) (Nat.le_of_ble_eq_true rfl) (fun Γ hk hR hT => ?_)
  refine g_aload_n (pc := 0) (dd d_Str_length 0 rfl) rfl ?_
  refine g_oldf (pc := 1) (dd d_Str_length 1 rfl) h2 fs_Str_9 ?_
  refine g_oldlen (pc := 4) (v := nI bs.length) (dd d_Str_length 2 rfl) h3 rfl ?_
  refine g_aload_n (pc := 5) (dd d_Str_length 3 rfl) rfl ?_
  refine g_callStr (pc := 6) (dd d_Str_length 4 rfl) v_Str_335 hg (ev_Str_coder hg) rfl (by rw [hk]; decide) (Nat.le_of_ble_eq_true rfl) ⟨Nat.zero_le _, Nat.zero_le _⟩ rfl ?_
  refine g_ishr (pc := 9) (dd d_Str_length 5 rfl) ?_
  refine g_iret (pc := 10) rfl (dd d_Str_length 6 rfl) ?_
  rw [show nI bs.length >>> ((0 : Int32) &&& 31) = nI bs.length from shr_0 _]
  exact hT
theorem ev_Pre_checkIndex {Δ : Dx} {n : Nat} {σ : St} {i l : Int32} {v : Value} (hv : v = .null ∨ ∃ q, v = .ref q) (h0 : ¬ i < 0) (h1 : i < l) : EvN Δ 0 m_Pre_checkIndex n [.int i, .int l, v] σ (some (.int i)) n σ 0 0 := by
  rcases hv with rfl | ⟨q, rfl⟩
  all_goals
    refine ev_of (by decide) (Nat.le_of_ble_eq_true rfl) (fun Γ hk hR hT => ?_)
    refine g_iload_n (pc := 0) (dd d_Pre_checkIndex 0 rfl) rfl ?_
    refine g_iflt (pc := 1) (tgt := 9) (dd d_Pre_checkIndex 1 rfl) (by decide) (fun q => absurd q h0) (fun _ => ?_)
    refine g_iload_n (pc := 4) (dd d_Pre_checkIndex 2 rfl) rfl ?_
    refine g_iload_n (pc := 5) (dd d_Pre_checkIndex 3 rfl) rfl ?_
    refine g_icmplt (pc := 6) (tgt := 16) (dd d_Pre_checkIndex 4 rfl) (by decide) (fun _ => ?_) (fun q => absurd h1 q)
    refine g_iload_n (pc := 16) (dd d_Pre_checkIndex 10 rfl) rfl ?_
    exact g_iret (pc := 17) rfl (dd d_Pre_checkIndex 11 rfl) hT
theorem ev_Str_checkIndex {Δ : Dx} {n : Nat} {σ : St} {i l : Int32} (h0 : ¬ i < 0) (h1 : i < l) : EvN Δ 1 m_Str_checkIndex n [.int i, .int l] σ none n σ 0 0 := by
  refine ev_of (by decide) (Nat.le_of_ble_eq_true rfl) (fun Γ hk hR hT => ?_)
  refine g_iload_n (pc := 0) (dd d_Str_checkIndex 0 rfl) rfl ?_
  refine g_iload_n (pc := 1) (dd d_Str_checkIndex 1 rfl) rfl ?_
  refine g_getsR (pc := 2) (dd d_Str_checkIndex 2 rfl) cs_4 cs_5 cs_6 fs_Str_1053 (fun v hv => ?_)
  refine g_callS (pc := 5) (dd d_Str_checkIndex 3 rfl) s_Str_1059 (ev_Pre_checkIndex hv h0 h1) rfl (by rw [hk]; decide) (Nat.le_of_ble_eq_true rfl) ⟨Nat.zero_le _, Nat.zero_le _⟩ rfl ?_
  refine g_pop (pc := 8) (dd d_Str_checkIndex 4 rfl) rfl ?_
  exact g_vret (pc := 9) rfl (dd d_Str_checkIndex 5 rfl) hT
theorem ev_Lat_charAt {Δ : Dx} {n : Nat} {σ : St} {t : Nat} {bs : List Int32} {k : Nat} (hl : bs.length < 2 ^ 31) (h3 : va_T .byte t bs.length (fun j => .int (bs.getD j 0)) Δ.A Δ.s0 Δ.s0.heap) (hk : k < bs.length) : EvN Δ 2 m_Lat_charAt n [.ref t, .int (nI k)] σ (some (.int (ch8 (bs.getD k 0)))) n σ 0 0 := by
  refine ev_of (by decide) (Nat.le_of_ble_eq_true rfl) (fun Γ hkk hR hT => ?_)
  refine g_iload_n (pc := 0) (dd d_Lat_charAt 0 rfl) rfl ?_
  refine g_aload_n (pc := 1) (dd d_Lat_charAt 1 rfl) rfl ?_
  refine g_oldlen (pc := 2) (v := nI bs.length) (dd d_Lat_charAt 2 rfl) h3 rfl ?_
  refine g_callS (pc := 3) (dd d_Lat_charAt 3 rfl) s_Lat_9 (ev_Str_checkIndex (nI_pos (by omega)) (nI_lt hk hl)) rfl (by rw [hkk]; decide) (Nat.le_of_ble_eq_true rfl) ⟨Nat.zero_le _, Nat.zero_le _⟩ rfl ?_
  refine g_aload_n (pc := 6) (dd d_Lat_charAt 4 rfl) rfl ?_
  refine g_iload_n (pc := 7) (dd d_Lat_charAt 5 rfl) rfl ?_
  refine g_oldb (pc := 8) (v := .int (bs.getD k 0)) (dd d_Lat_charAt 6 rfl) h3 (nI_in hk hl) (by rw [nI_clamp (by omega)]) ?_
  refine g_sipush (pc := 9) (v := 255) (dd d_Lat_charAt 7 rfl) (by decide) ?_
  refine g_iand (pc := 12) (dd d_Lat_charAt 8 rfl) ?_
  refine g_i2c (pc := 13) (dd d_Lat_charAt 9 rfl) ?_
  exact g_nret (pc := 14) rfl (ch8_fit _) (dd d_Lat_charAt 10 rfl) hT
theorem ev_Str_charAt {Δ : Dx} {n : Nat} {σ : St} {a : Nat} {bs : List Int32} {k : Nat} (hg : Sg Δ a bs) (hk : k < bs.length) : EvN Δ 3 m_Str_charAt n [.ref a, .int (nI k)] σ (some (.int (ch8 (bs.getD k 0)))) n σ 0 0 := by
  obtain ⟨hl, v, h0, h1, h2, h3⟩ := id hg
  refine ev_of (by decide) (Nat.le_of_ble_eq_true rfl) (fun Γ hkk hR hT => ?_)
  refine g_aload_n (pc := 0) (dd d_Str_charAt 0 rfl) rfl ?_
  refine g_callStr (pc := 1) (dd d_Str_charAt 1 rfl) v_Str_492 hg (ev_Str_isLatin1 hg) rfl (by rw [hkk]; decide) (Nat.le_of_ble_eq_true rfl) ⟨Nat.zero_le _, Nat.zero_le _⟩ rfl ?_
  refine g_ifeq (pc := 4) (tgt := 16) (dd d_Str_charAt 2 rfl) (by decide) (fun q => absurd q (by decide)) (fun _ => ?_)
  refine g_aload_n (pc := 7) (dd d_Str_charAt 3 rfl) rfl ?_
  refine g_oldf (pc := 8) (dd d_Str_charAt 4 rfl) h2 fs_Str_9 ?_
  refine g_iload_n (pc := 11) (dd d_Str_charAt 5 rfl) rfl ?_
  refine g_callS (pc := 12) (dd d_Str_charAt 6 rfl) s_Str_495 (ev_Lat_charAt hl h3 hk) rfl (by rw [hkk]; decide) (Nat.le_of_ble_eq_true rfl) ⟨Nat.zero_le _, Nat.zero_le _⟩ rfl ?_
  exact g_nret (pc := 15) rfl (ch8_fit _) (dd d_Str_charAt 7 rfl) hT
