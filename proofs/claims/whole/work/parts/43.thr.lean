/-! calls of the class that throw -/
def exN : Nat → String
  | 1 => "java/lang/IllegalArgumentException"
  | 2 => "java/lang/UnsupportedOperationException"
  | 3 => "java/lang/IndexOutOfBoundsException"
  | _ => "java/lang/IllegalStateException"
theorem th_116 : ThS "WardEngine" 116 "no such place or sign" := ⟨List.mem_append_right _ (List.mem_of_getElem? (i := 965) (by decide +kernel)), List.mem_of_getElem? (i := 635) (by decide +kernel)⟩
theorem th_136 : ThS "WardEngine" 136 "no such place of code" := ⟨List.mem_append_right _ (List.mem_of_getElem? (i := 1260) (by decide +kernel)), List.mem_of_getElem? (i := 930) (by decide +kernel)⟩
theorem th_138 : ThS "WardEngine" 138 "what is 0 or 1" := ⟨List.mem_append_right _ (List.mem_of_getElem? (i := 1261) (by decide +kernel)), List.mem_of_getElem? (i := 955) (by decide +kernel)⟩
theorem th_147 : ThS "WardEngine" 147 "no such word" := ⟨List.mem_append_right _ (List.mem_of_getElem? (i := 1277) (by decide +kernel)), List.mem_of_getElem? (i := 973) (by decide +kernel)⟩
theorem th_153 : ThS "WardEngine" 153 "no such register" := ⟨List.mem_append_right _ (List.mem_of_getElem? (i := 1286) (by decide +kernel)), List.mem_of_getElem? (i := 989) (by decide +kernel)⟩
theorem th_161 : ThS "WardEngine" 161 "no room for an input" := ⟨List.mem_append_right _ (List.mem_of_getElem? (i := 1295) (by decide +kernel)), List.mem_of_getElem? (i := 1009) (by decide +kernel)⟩
theorem th_166 : ThS "WardEngine" 166 "n is 0 .. 2000" := ⟨List.mem_append_right _ (List.mem_of_getElem? (i := 1305) (by decide +kernel)), List.mem_of_getElem? (i := 1033) (by decide +kernel)⟩
theorem th_170 : ThS "WardEngine" 170 "the machine has stopped" := ⟨List.mem_append_right _ (List.mem_of_getElem? (i := 1315) (by decide +kernel)), List.mem_of_getElem? (i := 1051) (by decide +kernel)⟩
theorem th_177 : ThS "WardEngine" 177 "what is 0 .. 9" := ⟨List.mem_append_right _ (List.mem_of_getElem? (i := 1489) (by decide +kernel)), List.mem_of_getElem? (i := 1078) (by decide +kernel)⟩
theorem th_197 : ThS "WardEngine" 197 "what is 0, 1 or 2" := ⟨List.mem_append_right _ (List.mem_of_getElem? (i := 1504) (by decide +kernel)), List.mem_of_getElem? (i := 1096) (by decide +kernel)⟩
theorem th_211 : ThS "WardEngine" 211 "no such output is kept" := ⟨List.mem_append_right _ (List.mem_of_getElem? (i := 1517) (by decide +kernel)), List.mem_of_getElem? (i := 1117) (by decide +kernel)⟩
theorem th_216 : ThS "WardEngine" 216 "no such pair" := ⟨List.mem_append_right _ (List.mem_of_getElem? (i := 1525) (by decide +kernel)), List.mem_of_getElem? (i := 1143) (by decide +kernel)⟩
theorem th_224 : ThS "WardEngine" 224 "no such kind" := ⟨List.mem_append_right _ (List.mem_of_getElem? (i := 1533) (by decide +kernel)), List.mem_of_getElem? (i := 1159) (by decide +kernel)⟩
theorem th_232 : ThS "WardEngine" 232 "the journal has not so many" := ⟨List.mem_append_right _ (List.mem_of_getElem? (i := 1541) (by decide +kernel)), List.mem_of_getElem? (i := 1175) (by decide +kernel)⟩
theorem th_234 : ThS "WardEngine" 234 "what is 0 .. 5" := ⟨List.mem_append_right _ (List.mem_of_getElem? (i := 1542) (by decide +kernel)), List.mem_of_getElem? (i := 1206) (by decide +kernel)⟩
theorem th_240 : ThS "WardEngine" 240 "no such kind or count" := ⟨List.mem_append_right _ (List.mem_of_getElem? (i := 1554) (by decide +kernel)), List.mem_of_getElem? (i := 1224) (by decide +kernel)⟩
theorem th_245 : ThS "WardEngine" 245 "the cache has not so many" := ⟨List.mem_append_right _ (List.mem_of_getElem? (i := 1562) (by decide +kernel)), List.mem_of_getElem? (i := 1249) (by decide +kernel)⟩
theorem th_247 : ThS "WardEngine" 247 "what is 0 .. 4 or 10 .. 24" := ⟨List.mem_append_right _ (List.mem_of_getElem? (i := 1563) (by decide +kernel)), List.mem_of_getElem? (i := 1278) (by decide +kernel)⟩
theorem th_253 : ThS "WardEngine" 253 "no such kind, or most is not 1 .. 7" := ⟨List.mem_append_right _ (List.mem_of_getElem? (i := 1571) (by decide +kernel)), List.mem_of_getElem? (i := 1308) (by decide +kernel)⟩
theorem th_258 : ThS "WardEngine" 258 "no two rules that can be compared" := ⟨List.mem_append_right _ (List.mem_of_getElem? (i := 1573) (by decide +kernel)), List.mem_of_getElem? (i := 1347) (by decide +kernel)⟩
theorem th_267 : ThS "WardEngine" 267 "too many cases" := ⟨List.mem_append_right _ (List.mem_of_getElem? (i := 1581) (by decide +kernel)), List.mem_of_getElem? (i := 1384) (by decide +kernel)⟩
theorem th_276 : ThS "WardEngine" 276 "no such name" := ⟨List.mem_append_right _ (List.mem_of_getElem? (i := 1611) (by decide +kernel)), List.mem_of_getElem? (i := 1402) (by decide +kernel)⟩
theorem th_282 : ThS "WardEngine" 282 "no case was found" := ⟨List.mem_append_right _ (List.mem_of_getElem? (i := 1612) (by decide +kernel)), List.mem_of_getElem? (i := 1418) (by decide +kernel)⟩
theorem th_303 : ThS "WardEngine" 303 "what is 0 .. 3" := ⟨List.mem_append_right _ (List.mem_of_getElem? (i := 1644) (by decide +kernel)), List.mem_of_getElem? (i := 1439) (by decide +kernel)⟩
theorem th_79 : ThS "WardEngine" 79 "a byte that is no sign" := ⟨List.mem_append_right _ (List.mem_of_getElem? (i := 894) (by decide +kernel)), List.mem_of_getElem? (i := 555) (by decide +kernel)⟩
theorem th_90 : ThS "WardEngine" 90 "the text is full" := ⟨List.mem_append_right _ (List.mem_of_getElem? (i := 929) (by decide +kernel)), List.mem_of_getElem? (i := 581) (by decide +kernel)⟩
theorem th_97 : ThS "WardEngine" 97 "the text has not so many signs" := ⟨List.mem_append_right _ (List.mem_of_getElem? (i := 947) (by decide +kernel)), List.mem_of_getElem? (i := 601) (by decide +kernel)⟩
theorem tx_114 : ThX "WardEngine" 114 118 "java/lang/IndexOutOfBoundsException" ["java/lang/RuntimeException", "java/lang/Exception"] := ⟨⟨by decide +kernel, by decide +kernel⟩, ⟨by decide +kernel, by decide +kernel⟩, ⟨by decide +kernel, by decide +kernel⟩, by decide +kernel, by decide +kernel, by decide +kernel, by decide⟩
theorem tx_77 : ThX "WardEngine" 77 81 "java/lang/IllegalArgumentException" ["java/lang/RuntimeException", "java/lang/Exception"] := ⟨⟨by decide +kernel, by decide +kernel⟩, ⟨by decide +kernel, by decide +kernel⟩, ⟨by decide +kernel, by decide +kernel⟩, by decide +kernel, by decide +kernel, by decide +kernel, by decide⟩
theorem tx_88 : ThX "WardEngine" 88 92 "java/lang/UnsupportedOperationException" ["java/lang/RuntimeException", "java/lang/Exception"] := ⟨⟨by decide +kernel, by decide +kernel⟩, ⟨by decide +kernel, by decide +kernel⟩, ⟨by decide +kernel, by decide +kernel⟩, by decide +kernel, by decide +kernel, by decide +kernel, by decide⟩
theorem tx_168 : ThX "WardEngine" 168 172 "java/lang/IllegalStateException" ["java/lang/RuntimeException", "java/lang/Exception"] := ⟨⟨by decide +kernel, by decide +kernel⟩, ⟨by decide +kernel, by decide +kernel⟩, ⟨by decide +kernel, by decide +kernel⟩, by decide +kernel, by decide +kernel, by decide +kernel, by decide⟩
def tEng_put_b_42 (n : Nat) (I : IM) (H4 : Int32 → Int32 → Int32 → Option (Nat)) (x1 : Int32) (x2 : Int32) (x3 : Int32) (x4 : Int32) : Option (Nat) := H4 x1 (x2 + (if x4 = 0 then 0 else 1 : Int32)) (x3 + 8)
set_option maxRecDepth 20000 in
set_option maxHeartbeats 4000000 in
theorem hb_Eng_put_42 {Δ : Dx} {X : Lx} {rl hd ot pt it : Nat} (hX : EX Δ X rl hd ot pt it)   {n : Nat} {I : IM} {Γ : Cx} (hk : Γ.k = 12) {r : Nat} (hR : Γ.R = rmk Γ.k 1 6) (he : Γ.c.exceptionTable.isEmpty = true) (hT : TgT Δ Γ (exN r) (I, X)) {H4 : Int32 → Int32 → Int32 → Option (Nat)} (hH4 : ∀ (x1 : Int32) (x2 : Int32) (x3 : Int32), H4 x1 x2 x3 = some r → GG Δ m_Eng_put Γ NN 0 0 (I, X) 4 [some (.ref (Δ.ba + 0)), some (.int (x1)), some (.int (x2)), some (.int (x3)), none] []) {x1 : Int32} {x2 : Int32} {x3 : Int32} {x4 : Int32} (h : tEng_put_b_42 n I H4 x1 x2 x3 x4 = some r) : GG Δ m_Eng_put Γ NN 0 0 (I, X) 42 [some (.ref (Δ.ba + 0)), some (.int (x1)), some (.int (x2)), some (.int (x3)), some (.int (x4))] [] := by
  unfold tEng_put_b_42 at h
  refine g_iload_n (pc := 42) (dd d_Eng_put 23 rfl) rfl ?_
  refine g_iload (pc := 43) (dd d_Eng_put 24 rfl) rfl ?_
  suffices K45 : ∀ z : Int32, z = (if x4 = 0 then 0 else 1 : Int32) → GG Δ m_Eng_put Γ NN 0 0 (I, X) 53 [some (.ref (Δ.ba + 0)), some (.int (x1)), some (.int (x2)), some (.int (x3)), some (.int (x4))] [.int (z), .int (x2)] by
    refine g_ifne (pc := 45) (tgt := 52) (dd d_Eng_put 25 rfl) (by decide) (fun q7 => ?_) (fun q7 => ?_)
    · skip
      refine g_iconst (pc := 52) (v := 1) (dd d_Eng_put 28 rfl) (by decide) ?_
      exact K45 _ (by rw [if_neg q7])
    · skip
      refine g_iconst (pc := 48) (v := 0) (dd d_Eng_put 26 rfl) (by decide) ?_
      refine g_goto (pc := 49) (tgt := 53) (dd d_Eng_put 27 rfl) (by decide) ?_
      exact K45 _ (by rw [if_pos q7])
  intro z hz
  subst hz
  refine g_iadd (pc := 53) (dd d_Eng_put 29 rfl) ?_
  refine g_istore_n (pc := 54) (dd d_Eng_put 30 rfl) (by decide) ?_
  refine g_iincW (pc := 55) (w := 8) (dd d_Eng_put 31 rfl) rfl (by decide) (by decide) ?_
  refine g_goto (pc := 58) (tgt := 4) (dd d_Eng_put 32 rfl) (by decide) ?_
  refine g_drop [4] ?_
  exact hH4 _ _ _ h
def tEng_put_l_88 (n : Nat) (I : IM)  : Nat → Int32 → Int32 → Option (Nat)
  | 0, _, _ => none
  | f + 1, x1, x3 => if (32 : Int32) ≤ x3 then (none) else (none)
set_option maxRecDepth 20000 in
set_option maxHeartbeats 4000000 in
theorem hl_Eng_put_88 {Δ : Dx} {X : Lx} {rl hd ot pt it : Nat} (hX : EX Δ X rl hd ot pt it)   {n : Nat} {I : IM} {Γ : Cx} (hk : Γ.k = 12) {r : Nat} (hR : Γ.R = rmk Γ.k 1 6) (he : Γ.c.exceptionTable.isEmpty = true) (hT : TgT Δ Γ (exN r) (I, X))  : ∀ (f : Nat) (x1 : Int32) (x3 : Int32), tEng_put_l_88 n I  f x1 x3 = some r → GG Δ m_Eng_put Γ NN 0 0 (I, X) 88 [some (.ref (Δ.ba + 0)), some (.int (x1)), none, some (.int (x3)), none] []
  | 0, _, _, h => by cases h
  | f + 1, x1, x3, h => by
    have ih := hl_Eng_put_88 (n := n) hX hk hR he hT  f
    rw [tEng_put_l_88] at h
    refine g_iload_n (pc := 88) (dd d_Eng_put 47 rfl) rfl ?_
    refine g_bipush (pc := 89) (v := 32) (dd d_Eng_put 48 rfl) (by decide) ?_
    refine g_icmpge (pc := 91) (tgt := 114) (dd d_Eng_put 49 rfl) (by decide) (fun q8 => ?_) (fun q8 => ?_)
    · replace h := ite_t h q8
      refine g_aload_n (pc := 114) (dd d_Eng_put_1 0 rfl) rfl ?_
      refine g_getr (pc := 115) (dd d_Eng_put_1 1 rfl) f_Eng_12 oc_Eng rfl (rx_Eng_0 hX) ?_
      refine g_geti (pc := 118) (dd d_Eng_put_1 2 rfl) f_Eng_84 oc_Rdr rfl ?_
      cases h
    · replace h := ite_f h q8
      refine g_aload_n (pc := 94) (dd d_Eng_put 50 rfl) rfl ?_
      refine g_getr (pc := 95) (dd d_Eng_put 51 rfl) f_Eng_12 oc_Eng rfl (rx_Eng_0 hX) ?_
      refine g_iload_n (pc := 98) (dd d_Eng_put 52 rfl) rfl ?_
      refine g_iload_n (pc := 99) (dd d_Eng_put 53 rfl) rfl ?_
      refine g_ishr (pc := 100) (dd d_Eng_put 54 rfl) ?_
      refine g_sipush (pc := 101) (v := 255) (dd d_Eng_put 55 rfl) (by decide) ?_
      refine g_iand (pc := 104) (dd d_Eng_put 56 rfl) ?_
      cases h
def tEng_put_l_4 (n : Nat) (I : IM)  : Nat → Int32 → Int32 → Int32 → Option (Nat)
  | 0, _, _, _ => none
  | f + 1, x1, x2, x3 => if (32 : Int32) ≤ x3 then (if ((I 1 0) + x2 : Int32) ≤ (900 : Int32) then (tEng_put_l_88 n I  n x1 0) else (some 2)) else (if (((x1 : Int32) >>> ((x3 : Int32) &&& 31)) &&& 255 : Int32) = 0 then (tEng_put_b_42 n I (tEng_put_l_4 n I  f) x1 x2 x3 (((x1 : Int32) >>> ((x3 : Int32) &&& 31)) &&& 255)) else (Option.bind (f_Rdr_mayStand  (((x1 : Int32) >>> ((x3 : Int32) &&& 31)) &&& 255) I) fun v4 => if v4 = 0 then (some 1) else (tEng_put_b_42 n I (tEng_put_l_4 n I  f) x1 x2 x3 (((x1 : Int32) >>> ((x3 : Int32) &&& 31)) &&& 255))))
set_option maxRecDepth 20000 in
set_option maxHeartbeats 4000000 in
theorem hl_Eng_put_4 {Δ : Dx} {X : Lx} {rl hd ot pt it : Nat} (hX : EX Δ X rl hd ot pt it)   {n : Nat} {I : IM} {Γ : Cx} (hk : Γ.k = 12) {r : Nat} (hR : Γ.R = rmk Γ.k 1 6) (he : Γ.c.exceptionTable.isEmpty = true) (hT : TgT Δ Γ (exN r) (I, X))  : ∀ (f : Nat) (x1 : Int32) (x2 : Int32) (x3 : Int32), tEng_put_l_4 n I  f x1 x2 x3 = some r → GG Δ m_Eng_put Γ NN 0 0 (I, X) 4 [some (.ref (Δ.ba + 0)), some (.int (x1)), some (.int (x2)), some (.int (x3)), none] []
  | 0, _, _, _, h => by cases h
  | f + 1, x1, x2, x3, h => by
    have ih := hl_Eng_put_4 (n := n) hX hk hR he hT  f
    rw [tEng_put_l_4] at h
    refine g_iload_n (pc := 4) (dd d_Eng_put 4 rfl) rfl ?_
    refine g_bipush (pc := 5) (v := 32) (dd d_Eng_put 5 rfl) (by decide) ?_
    refine g_icmpge (pc := 7) (tgt := 61) (dd d_Eng_put 6 rfl) (by decide) (fun q1 => ?_) (fun q1 => ?_)
    · replace h := ite_t h q1
      refine g_aload_n (pc := 61) (dd d_Eng_put 33 rfl) rfl ?_
      refine g_getr (pc := 62) (dd d_Eng_put 34 rfl) f_Eng_12 oc_Eng rfl (rx_Eng_0 hX) ?_
      refine g_geti (pc := 65) (dd d_Eng_put 35 rfl) f_Eng_84 oc_Rdr rfl ?_
      refine g_iload_n (pc := 68) (dd d_Eng_put 36 rfl) rfl ?_
      refine g_iadd (pc := 69) (dd d_Eng_put 37 rfl) ?_
      refine g_sipush (pc := 70) (v := 900) (dd d_Eng_put 38 rfl) (by decide) ?_
      refine g_icmple (pc := 73) (tgt := 86) (dd d_Eng_put 39 rfl) (by decide) (fun q2 => ?_) (fun q2 => ?_)
      · replace h := ite_t h q2
        refine g_iconst (pc := 86) (v := 0) (dd d_Eng_put 45 rfl) (by decide) ?_
        refine g_istore_n (pc := 87) (dd d_Eng_put 46 rfl) (by decide) ?_
        refine g_drop [2] ?_
        exact hl_Eng_put_88 hX hk hR he hT  _ _ _ h
      · replace h := ite_f h q2
        cases h
        exact g_throwD (pc := 76) (dd d_Eng_put 40 rfl) (dd d_Eng_put 41 rfl) (dd d_Eng_put 42 rfl) (dd d_Eng_put 43 rfl) (dd d_Eng_put 44 rfl) tx_88 th_90 hT he (by omega) hR
    · replace h := ite_f h q1
      refine g_iload_n (pc := 10) (dd d_Eng_put 7 rfl) rfl ?_
      refine g_iload_n (pc := 11) (dd d_Eng_put 8 rfl) rfl ?_
      refine g_ishr (pc := 12) (dd d_Eng_put 9 rfl) ?_
      refine g_sipush (pc := 13) (v := 255) (dd d_Eng_put 10 rfl) (by decide) ?_
      refine g_iand (pc := 16) (dd d_Eng_put 11 rfl) ?_
      refine g_istore (pc := 17) (dd d_Eng_put 12 rfl) (by decide) ?_
      refine g_iload (pc := 19) (dd d_Eng_put 13 rfl) rfl ?_
      refine g_ifeq (pc := 21) (tgt := 42) (dd d_Eng_put 14 rfl) (by decide) (fun q3 => ?_) (fun q3 => ?_)
      · replace h := ite_t h q3
        exact hb_Eng_put_42 hX hk hR he hT ih h
      · replace h := ite_f h q3
        refine g_iload (pc := 24) (dd d_Eng_put 15 rfl) rfl ?_
        obtain ⟨v4, e5, h⟩ := bnd_e h
        refine g_callS (pc := 26) (dd d_Eng_put 16 rfl) s_Eng_73 (ef_Rdr_mayStand hX e5) rfl (by omega) (Nat.le_of_ble_eq_true rfl) ⟨Nat.zero_le _, Nat.zero_le _⟩ rfl ?_
        refine g_ifne (pc := 29) (tgt := 42) (dd d_Eng_put 17 rfl) (by decide) (fun q6 => ?_) (fun q6 => ?_)
        · replace h := ite_f h q6
          exact hb_Eng_put_42 hX hk hR he hT ih h
        · replace h := ite_t h q6
          cases h
          exact g_throwD (pc := 32) (dd d_Eng_put 18 rfl) (dd d_Eng_put 19 rfl) (dd d_Eng_put 20 rfl) (dd d_Eng_put 21 rfl) (dd d_Eng_put 22 rfl) tx_77 th_79 hT he (by omega) hR
def t_Eng_put (n : Nat) (x1 : Int32) (I : IM) : Option (Nat) := tEng_put_l_4 n I  n x1 0 0
set_option maxRecDepth 20000 in
set_option maxHeartbeats 4000000 in
theorem et_Eng_put {Δ : Dx} {X : Lx} {rl hd ot pt it : Nat} (hX : EX Δ X rl hd ot pt it) {n : Nat} {x1 : Int32}  {I : IM}  {r : Nat} (h : t_Eng_put n x1 I = some r) : EvT Δ 12 m_Eng_put [.ref (Δ.ba + 0), .int x1] (I, X) (exN r) := by
  refine evT_of (by decide) (Nat.le_of_ble_eq_true rfl) (fun Γ hk hR hT he => ?_)
  replace hR : Γ.R = rmk Γ.k 1 6 := by rw [hk]; exact hR
  change GG Δ m_Eng_put Γ NN 0 0 (I, X) 0 [some (.ref (Δ.ba + 0)), some (.int (x1)), none, none, none] []
  unfold t_Eng_put at h
  refine g_iconst (pc := 0) (v := 0) (dd d_Eng_put 0 rfl) (by decide) ?_
  refine g_istore_n (pc := 1) (dd d_Eng_put 1 rfl) (by decide) ?_
  refine g_iconst (pc := 2) (v := 0) (dd d_Eng_put 2 rfl) (by decide) ?_
  refine g_istore_n (pc := 3) (dd d_Eng_put 3 rfl) (by decide) ?_
  exact hl_Eng_put_4 hX hk hR he hT  _ _ _ _ h
def tEng_end_b_15 (I : IM)   : Option (Nat) := some 1
set_option maxRecDepth 20000 in
set_option maxHeartbeats 4000000 in
theorem hb_Eng_end_15 {Δ : Dx} {X : Lx} {rl hd ot pt it : Nat} (hX : EX Δ X rl hd ot pt it)   {I : IM} {Γ : Cx} (hk : Γ.k = 12) {r : Nat} (hR : Γ.R = rmk Γ.k 1 6) (he : Γ.c.exceptionTable.isEmpty = true) (hT : TgT Δ Γ (exN r) (I, X))   (h : tEng_end_b_15 I   = some r) : GG Δ m_Eng_end Γ NN 0 0 (I, X) 15 [none, none] [] := by
  unfold tEng_end_b_15 at h
  cases h
  exact g_throwD (pc := 15) (dd d_Eng_end 7 rfl) (dd d_Eng_end 8 rfl) (dd d_Eng_end 9 rfl) (dd d_Eng_end 10 rfl) (dd d_Eng_end 11 rfl) tx_77 th_97 hT he (by omega) hR
def t_Eng_end (x1 : Int32) (I : IM) : Option (Nat) := if x1 < 0 then (tEng_end_b_15 I  ) else (if x1 ≤ (I 1 0 : Int32) then (none) else (tEng_end_b_15 I  ))
set_option maxRecDepth 20000 in
set_option maxHeartbeats 4000000 in
theorem et_Eng_end {Δ : Dx} {X : Lx} {rl hd ot pt it : Nat} (hX : EX Δ X rl hd ot pt it) {x1 : Int32}  {I : IM}  {r : Nat} (h : t_Eng_end x1 I = some r) : EvT Δ 12 m_Eng_end [.ref (Δ.ba + 0), .int x1] (I, X) (exN r) := by
  refine evT_of (by decide) (Nat.le_of_ble_eq_true rfl) (fun Γ hk hR hT he => ?_)
  replace hR : Γ.R = rmk Γ.k 1 6 := by rw [hk]; exact hR
  change GG Δ m_Eng_end Γ NN 0 0 (I, X) 0 [some (.ref (Δ.ba + 0)), some (.int (x1))] []
  unfold t_Eng_end at h
  refine g_iload_n (pc := 0) (dd d_Eng_end 0 rfl) rfl ?_
  refine g_iflt (pc := 1) (tgt := 15) (dd d_Eng_end 1 rfl) (by decide) (fun q1 => ?_) (fun q1 => ?_)
  · replace h := ite_t h q1
    refine g_drop [0, 1] ?_
    exact hb_Eng_end_15 hX hk hR he hT  h
  · replace h := ite_f h q1
    refine g_iload_n (pc := 4) (dd d_Eng_end 2 rfl) rfl ?_
    refine g_aload_n (pc := 5) (dd d_Eng_end 3 rfl) rfl ?_
    refine g_getr (pc := 6) (dd d_Eng_end 4 rfl) f_Eng_12 oc_Eng rfl (rx_Eng_0 hX) ?_
    refine g_geti (pc := 9) (dd d_Eng_end 5 rfl) f_Eng_84 oc_Rdr rfl ?_
    refine g_icmple (pc := 12) (tgt := 25) (dd d_Eng_end 6 rfl) (by decide) (fun q2 => ?_) (fun q2 => ?_)
    · replace h := ite_t h q2
      refine g_aload_n (pc := 25) (dd d_Eng_end 12 rfl) rfl ?_
      refine g_getr (pc := 26) (dd d_Eng_end 13 rfl) f_Eng_12 oc_Eng rfl (rx_Eng_0 hX) ?_
      refine g_iload_n (pc := 29) (dd d_Eng_end 14 rfl) rfl ?_
      cases h
    · replace h := ite_f h q2
      refine g_drop [0, 1] ?_
      exact hb_Eng_end_15 hX hk hR he hT  h
def tEng_listing_b_14 (hd : Nat) (I : IM)   : Option (Nat) := some 3
set_option maxRecDepth 20000 in
set_option maxHeartbeats 4000000 in
theorem hb_Eng_listing_14 {Δ : Dx} {X : Lx} {rl hd ot pt it : Nat} (hX : EX Δ X rl hd ot pt it)   {I : IM} {Γ : Cx} (hk : Γ.k = 12) {r : Nat} (hR : Γ.R = rmk Γ.k 1 6) (he : Γ.c.exceptionTable.isEmpty = true) (hT : TgT Δ Γ (exN r) (I, X))   (h : tEng_listing_b_14 hd I   = some r) : GG Δ m_Eng_listing Γ NN 0 0 (I, X) 14 [none, none, none] [] := by
  unfold tEng_listing_b_14 at h
  cases h
  exact g_throwD (pc := 14) (dd d_Eng_listing 7 rfl) (dd d_Eng_listing 8 rfl) (dd d_Eng_listing 9 rfl) (dd d_Eng_listing 10 rfl) (dd d_Eng_listing 11 rfl) tx_114 th_116 hT he (by omega) hR
def t_Eng_listing (hd : Nat) (x1 : Int32) (x2 : Int32) (I : IM) : Option (Nat) := if x1 < 0 then (tEng_listing_b_14 hd I  ) else (if (64 : Int32) ≤ x1 then (tEng_listing_b_14 hd I  ) else (if 0 ≤ x2 then (chk (inb x1 64) <| none) else (tEng_listing_b_14 hd I  )))
set_option maxRecDepth 20000 in
set_option maxHeartbeats 4000000 in
theorem et_Eng_listing {Δ : Dx} {X : Lx} {rl hd ot pt it : Nat} (hX : EX Δ X rl hd ot pt it) {x1 : Int32} {x2 : Int32}  {I : IM}  {r : Nat} (h : t_Eng_listing hd x1 x2 I = some r) : EvT Δ 12 m_Eng_listing [.ref (Δ.ba + 0), .int x1, .int x2] (I, X) (exN r) := by
  refine evT_of (by decide) (Nat.le_of_ble_eq_true rfl) (fun Γ hk hR hT he => ?_)
  replace hR : Γ.R = rmk Γ.k 1 6 := by rw [hk]; exact hR
  change GG Δ m_Eng_listing Γ NN 0 0 (I, X) 0 [some (.ref (Δ.ba + 0)), some (.int (x1)), some (.int (x2))] []
  unfold t_Eng_listing at h
  refine g_iload_n (pc := 0) (dd d_Eng_listing 0 rfl) rfl ?_
  refine g_iflt (pc := 1) (tgt := 14) (dd d_Eng_listing 1 rfl) (by decide) (fun q1 => ?_) (fun q1 => ?_)
  · replace h := ite_t h q1
    refine g_drop [0, 1, 2] ?_
    exact hb_Eng_listing_14 hX hk hR he hT  h
  · replace h := ite_f h q1
    refine g_iload_n (pc := 4) (dd d_Eng_listing 2 rfl) rfl ?_
    refine g_bipush (pc := 5) (v := 64) (dd d_Eng_listing 3 rfl) (by decide) ?_
    refine g_icmpge (pc := 7) (tgt := 14) (dd d_Eng_listing 4 rfl) (by decide) (fun q2 => ?_) (fun q2 => ?_)
    · replace h := ite_t h q2
      refine g_drop [0, 1, 2] ?_
      exact hb_Eng_listing_14 hX hk hR he hT  h
    · replace h := ite_f h q2
      refine g_iload_n (pc := 10) (dd d_Eng_listing 5 rfl) rfl ?_
      refine g_ifge (pc := 11) (tgt := 24) (dd d_Eng_listing 6 rfl) (by decide) (fun q3 => ?_) (fun q3 => ?_)
      · replace h := ite_t h q3
        refine g_aload_n (pc := 24) (dd d_Eng_listing 12 rfl) rfl ?_
        refine g_aload_n (pc := 25) (dd d_Eng_listing 13 rfl) rfl ?_
        refine g_getr (pc := 26) (dd d_Eng_listing 14 rfl) f_Eng_66 oc_Eng rfl hX.r_hd ?_
        refine g_getr (pc := 29) (dd d_Eng_listing 15 rfl) f_Eng_119 (oc_Mch hX.i_hd) rfl (rx_Mch_3 hX hX.i_hd) ?_
        refine g_iload_n (pc := 32) (dd d_Eng_listing 16 rfl) rfl ?_
        obtain ⟨c4, h⟩ := chk_e h
        refine g_iald (pc := 33) (dd d_Eng_listing 17 rfl) (ax_Mch_3 hX.i_hd) c4 ?_
        refine g_aload_n (pc := 34) (dd d_Eng_listing 18 rfl) rfl ?_
        refine g_getr (pc := 35) (dd d_Eng_listing 19 rfl) f_Eng_66 oc_Eng rfl hX.r_hd ?_
        refine g_getr (pc := 38) (dd d_Eng_listing 20 rfl) f_Eng_123 (oc_Mch hX.i_hd) rfl (rx_Mch_4 hX hX.i_hd) ?_
        refine g_iload_n (pc := 41) (dd d_Eng_listing 21 rfl) rfl ?_
        refine g_iald (pc := 42) (dd d_Eng_listing 22 rfl) (ax_Mch_4 hX.i_hd) c4 ?_
        cases h
      · replace h := ite_f h q3
        refine g_drop [0, 1, 2] ?_
        exact hb_Eng_listing_14 hX hk hR he hT  h
def tEng_codeOf_b_10 (hd : Nat) (I : IM)   : Option (Nat) := some 3
set_option maxRecDepth 20000 in
set_option maxHeartbeats 4000000 in
theorem hb_Eng_codeOf_10 {Δ : Dx} {X : Lx} {rl hd ot pt it : Nat} (hX : EX Δ X rl hd ot pt it)   {I : IM} {Γ : Cx} (hk : Γ.k = 12) {r : Nat} (hR : Γ.R = rmk Γ.k 1 6) (he : Γ.c.exceptionTable.isEmpty = true) (hT : TgT Δ Γ (exN r) (I, X))   (h : tEng_codeOf_b_10 hd I   = some r) : GG Δ m_Eng_codeOf Γ NN 0 0 (I, X) 10 [none, none, none] [] := by
  unfold tEng_codeOf_b_10 at h
  cases h
  exact g_throwD (pc := 10) (dd d_Eng_codeOf 5 rfl) (dd d_Eng_codeOf 6 rfl) (dd d_Eng_codeOf 7 rfl) (dd d_Eng_codeOf 8 rfl) (dd d_Eng_codeOf 9 rfl) tx_114 th_136 hT he (by omega) hR
def tEng_codeOf_b_29 (hd : Nat) (I : IM)   : Option (Nat) := some 1
set_option maxRecDepth 20000 in
set_option maxHeartbeats 4000000 in
theorem hb_Eng_codeOf_29 {Δ : Dx} {X : Lx} {rl hd ot pt it : Nat} (hX : EX Δ X rl hd ot pt it)   {I : IM} {Γ : Cx} (hk : Γ.k = 12) {r : Nat} (hR : Γ.R = rmk Γ.k 1 6) (he : Γ.c.exceptionTable.isEmpty = true) (hT : TgT Δ Γ (exN r) (I, X))   (h : tEng_codeOf_b_29 hd I   = some r) : GG Δ m_Eng_codeOf Γ NN 0 0 (I, X) 29 [none, none, none] [] := by
  unfold tEng_codeOf_b_29 at h
  cases h
  exact g_throwD (pc := 29) (dd d_Eng_codeOf 15 rfl) (dd d_Eng_codeOf 16 rfl) (dd d_Eng_codeOf 17 rfl) (dd d_Eng_codeOf 18 rfl) (dd d_Eng_codeOf 19 rfl) tx_77 th_138 hT he (by omega) hR
def tEng_codeOf_b_64 (hd : Nat) (I : IM)  (y0 : Int32) : Option (Nat) := none
set_option maxRecDepth 20000 in
set_option maxHeartbeats 4000000 in
theorem hb_Eng_codeOf_64 {Δ : Dx} {X : Lx} {rl hd ot pt it : Nat} (hX : EX Δ X rl hd ot pt it)   {I : IM} {Γ : Cx} (hk : Γ.k = 12) {r : Nat} (hR : Γ.R = rmk Γ.k 1 6) (he : Γ.c.exceptionTable.isEmpty = true) (hT : TgT Δ Γ (exN r) (I, X))  {y0 : Int32} (h : tEng_codeOf_b_64 hd I  y0 = some r) : GG Δ m_Eng_codeOf Γ NN 0 0 (I, X) 64 [none, none, none] [.int (y0)] := by
  unfold tEng_codeOf_b_64 at h
  cases h
def t_Eng_codeOf (hd : Nat) (x1 : Int32) (x2 : Int32) (I : IM) : Option (Nat) := if x1 < 0 then (tEng_codeOf_b_10 hd I  ) else (if x1 < (64 : Int32) then (if x2 < 0 then (tEng_codeOf_b_29 hd I  ) else (if x2 ≤ (1 : Int32) then (if x2 = 0 then (chk (inb x1 64) <| tEng_codeOf_b_64 hd I  (I (hd + 1) x1.toNatClampNeg)) else (chk (inb x1 64) <| tEng_codeOf_b_64 hd I  (I (hd + 2) x1.toNatClampNeg))) else (tEng_codeOf_b_29 hd I  ))) else (tEng_codeOf_b_10 hd I  ))
set_option maxRecDepth 20000 in
set_option maxHeartbeats 4000000 in
theorem et_Eng_codeOf {Δ : Dx} {X : Lx} {rl hd ot pt it : Nat} (hX : EX Δ X rl hd ot pt it) {x1 : Int32} {x2 : Int32}  {I : IM}  {r : Nat} (h : t_Eng_codeOf hd x1 x2 I = some r) : EvT Δ 12 m_Eng_codeOf [.ref (Δ.ba + 0), .int x1, .int x2] (I, X) (exN r) := by
  refine evT_of (by decide) (Nat.le_of_ble_eq_true rfl) (fun Γ hk hR hT he => ?_)
  replace hR : Γ.R = rmk Γ.k 1 6 := by rw [hk]; exact hR
  change GG Δ m_Eng_codeOf Γ NN 0 0 (I, X) 0 [some (.ref (Δ.ba + 0)), some (.int (x1)), some (.int (x2))] []
  unfold t_Eng_codeOf at h
  refine g_iload_n (pc := 0) (dd d_Eng_codeOf 0 rfl) rfl ?_
  refine g_iflt (pc := 1) (tgt := 10) (dd d_Eng_codeOf 1 rfl) (by decide) (fun q1 => ?_) (fun q1 => ?_)
  · replace h := ite_t h q1
    refine g_drop [0, 1, 2] ?_
    exact hb_Eng_codeOf_10 hX hk hR he hT  h
  · replace h := ite_f h q1
    refine g_iload_n (pc := 4) (dd d_Eng_codeOf 2 rfl) rfl ?_
    refine g_bipush (pc := 5) (v := 64) (dd d_Eng_codeOf 3 rfl) (by decide) ?_
    refine g_icmplt (pc := 7) (tgt := 20) (dd d_Eng_codeOf 4 rfl) (by decide) (fun q2 => ?_) (fun q2 => ?_)
    · replace h := ite_t h q2
      refine g_iload_n (pc := 20) (dd d_Eng_codeOf 10 rfl) rfl ?_
      refine g_iflt (pc := 21) (tgt := 29) (dd d_Eng_codeOf 11 rfl) (by decide) (fun q3 => ?_) (fun q3 => ?_)
      · replace h := ite_t h q3
        refine g_drop [0, 1, 2] ?_
        exact hb_Eng_codeOf_29 hX hk hR he hT  h
      · replace h := ite_f h q3
        refine g_iload_n (pc := 24) (dd d_Eng_codeOf 12 rfl) rfl ?_
        refine g_iconst (pc := 25) (v := 1) (dd d_Eng_codeOf 13 rfl) (by decide) ?_
        refine g_icmple (pc := 26) (tgt := 39) (dd d_Eng_codeOf 14 rfl) (by decide) (fun q4 => ?_) (fun q4 => ?_)
        · replace h := ite_t h q4
          refine g_iload_n (pc := 39) (dd d_Eng_codeOf 20 rfl) rfl ?_
          refine g_ifne (pc := 40) (tgt := 55) (dd d_Eng_codeOf 21 rfl) (by decide) (fun q5 => ?_) (fun q5 => ?_)
          · replace h := ite_f h q5
            refine g_aload_n (pc := 55) (dd d_Eng_codeOf 28 rfl) rfl ?_
            refine g_getr (pc := 56) (dd d_Eng_codeOf 29 rfl) f_Eng_66 oc_Eng rfl hX.r_hd ?_
            refine g_getr (pc := 59) (dd d_Eng_codeOf 30 rfl) f_Eng_123 (oc_Mch hX.i_hd) rfl (rx_Mch_4 hX hX.i_hd) ?_
            refine g_iload_n (pc := 62) (dd d_Eng_codeOf 31 rfl) rfl ?_
            obtain ⟨c6, h⟩ := chk_e h
            refine g_iald (pc := 63) (dd d_Eng_codeOf 32 rfl) (ax_Mch_4 hX.i_hd) c6 ?_
            refine g_drop [0, 1, 2] ?_
            exact hb_Eng_codeOf_64 hX hk hR he hT  h
          · replace h := ite_t h q5
            refine g_aload_n (pc := 43) (dd d_Eng_codeOf 22 rfl) rfl ?_
            refine g_getr (pc := 44) (dd d_Eng_codeOf 23 rfl) f_Eng_66 oc_Eng rfl hX.r_hd ?_
            refine g_getr (pc := 47) (dd d_Eng_codeOf 24 rfl) f_Eng_119 (oc_Mch hX.i_hd) rfl (rx_Mch_3 hX hX.i_hd) ?_
            refine g_iload_n (pc := 50) (dd d_Eng_codeOf 25 rfl) rfl ?_
            obtain ⟨c7, h⟩ := chk_e h
            refine g_iald (pc := 51) (dd d_Eng_codeOf 26 rfl) (ax_Mch_3 hX.i_hd) c7 ?_
            refine g_goto (pc := 52) (tgt := 64) (dd d_Eng_codeOf 27 rfl) (by decide) ?_
            refine g_drop [0, 1, 2] ?_
            exact hb_Eng_codeOf_64 hX hk hR he hT  h
        · replace h := ite_f h q4
          refine g_drop [0, 1, 2] ?_
          exact hb_Eng_codeOf_29 hX hk hR he hT  h
    · replace h := ite_f h q2
      refine g_drop [0, 1, 2] ?_
      exact hb_Eng_codeOf_10 hX hk hR he hT  h
def tEng_code_b_10 (hd : Nat) (I : IM)   : Option (Nat) := some 3
set_option maxRecDepth 20000 in
set_option maxHeartbeats 4000000 in
theorem hb_Eng_code_10 {Δ : Dx} {X : Lx} {rl hd ot pt it : Nat} (hX : EX Δ X rl hd ot pt it)   {I : IM} {Γ : Cx} (hk : Γ.k = 12) {r : Nat} (hR : Γ.R = rmk Γ.k 1 6) (he : Γ.c.exceptionTable.isEmpty = true) (hT : TgT Δ Γ (exN r) (I, X))   (h : tEng_code_b_10 hd I   = some r) : GG Δ m_Eng_code Γ NN 0 0 (I, X) 10 [none, none, none, none] [] := by
  unfold tEng_code_b_10 at h
  cases h
  exact g_throwD (pc := 10) (dd d_Eng_code 5 rfl) (dd d_Eng_code 6 rfl) (dd d_Eng_code 7 rfl) (dd d_Eng_code 8 rfl) (dd d_Eng_code 9 rfl) tx_114 th_136 hT he (by omega) hR
def t_Eng_code (hd : Nat) (x1 : Int32) (x2 : Int32) (x3 : Int32) (I : IM) : Option (Nat) := if x1 < 0 then (tEng_code_b_10 hd I  ) else (if x1 < (64 : Int32) then (none) else (tEng_code_b_10 hd I  ))
set_option maxRecDepth 20000 in
set_option maxHeartbeats 4000000 in
theorem et_Eng_code {Δ : Dx} {X : Lx} {rl hd ot pt it : Nat} (hX : EX Δ X rl hd ot pt it) {x1 : Int32} {x2 : Int32} {x3 : Int32}  {I : IM}  {r : Nat} (h : t_Eng_code hd x1 x2 x3 I = some r) : EvT Δ 12 m_Eng_code [.ref (Δ.ba + 0), .int x1, .int x2, .int x3] (I, X) (exN r) := by
  refine evT_of (by decide) (Nat.le_of_ble_eq_true rfl) (fun Γ hk hR hT he => ?_)
  replace hR : Γ.R = rmk Γ.k 1 6 := by rw [hk]; exact hR
  change GG Δ m_Eng_code Γ NN 0 0 (I, X) 0 [some (.ref (Δ.ba + 0)), some (.int (x1)), some (.int (x2)), some (.int (x3))] []
  unfold t_Eng_code at h
  refine g_iload_n (pc := 0) (dd d_Eng_code 0 rfl) rfl ?_
  refine g_iflt (pc := 1) (tgt := 10) (dd d_Eng_code 1 rfl) (by decide) (fun q1 => ?_) (fun q1 => ?_)
  · replace h := ite_t h q1
    refine g_drop [0, 1, 2, 3] ?_
    exact hb_Eng_code_10 hX hk hR he hT  h
  · replace h := ite_f h q1
    refine g_iload_n (pc := 4) (dd d_Eng_code 2 rfl) rfl ?_
    refine g_bipush (pc := 5) (v := 64) (dd d_Eng_code 3 rfl) (by decide) ?_
    refine g_icmplt (pc := 7) (tgt := 20) (dd d_Eng_code 4 rfl) (by decide) (fun q2 => ?_) (fun q2 => ?_)
    · replace h := ite_t h q2
      refine g_aload_n (pc := 20) (dd d_Eng_code 10 rfl) rfl ?_
      refine g_getr (pc := 21) (dd d_Eng_code 11 rfl) f_Eng_66 oc_Eng rfl hX.r_hd ?_
      refine g_iload_n (pc := 24) (dd d_Eng_code 12 rfl) rfl ?_
      refine g_iload_n (pc := 25) (dd d_Eng_code 13 rfl) rfl ?_
      refine g_iload_n (pc := 26) (dd d_Eng_code 14 rfl) rfl ?_
      cases h
    · replace h := ite_f h q2
      refine g_drop [0, 1, 2, 3] ?_
      exact hb_Eng_code_10 hX hk hR he hT  h
def tEng_word_b_10 (hd : Nat) (I : IM)   : Option (Nat) := some 3
set_option maxRecDepth 20000 in
set_option maxHeartbeats 4000000 in
theorem hb_Eng_word_10 {Δ : Dx} {X : Lx} {rl hd ot pt it : Nat} (hX : EX Δ X rl hd ot pt it)   {I : IM} {Γ : Cx} (hk : Γ.k = 12) {r : Nat} (hR : Γ.R = rmk Γ.k 1 6) (he : Γ.c.exceptionTable.isEmpty = true) (hT : TgT Δ Γ (exN r) (I, X))   (h : tEng_word_b_10 hd I   = some r) : GG Δ m_Eng_word Γ NN 0 0 (I, X) 10 [none, none, none, none, none] [] := by
  unfold tEng_word_b_10 at h
  cases h
  exact g_throwD (pc := 10) (dd d_Eng_word 5 rfl) (dd d_Eng_word 6 rfl) (dd d_Eng_word 7 rfl) (dd d_Eng_word 8 rfl) (dd d_Eng_word 9 rfl) tx_114 th_147 hT he (by omega) hR
def t_Eng_word (hd : Nat) (x1 : Int32) (x2 : Int32) (x3 : Int32) (x4 : Int32) (I : IM) : Option (Nat) := if x1 < 0 then (tEng_word_b_10 hd I  ) else (if x1 < (96 : Int32) then (none) else (tEng_word_b_10 hd I  ))
set_option maxRecDepth 20000 in
set_option maxHeartbeats 4000000 in
theorem et_Eng_word {Δ : Dx} {X : Lx} {rl hd ot pt it : Nat} (hX : EX Δ X rl hd ot pt it) {x1 : Int32} {x2 : Int32} {x3 : Int32} {x4 : Int32}  {I : IM}  {r : Nat} (h : t_Eng_word hd x1 x2 x3 x4 I = some r) : EvT Δ 12 m_Eng_word [.ref (Δ.ba + 0), .int x1, .int x2, .int x3, .int x4] (I, X) (exN r) := by
  refine evT_of (by decide) (Nat.le_of_ble_eq_true rfl) (fun Γ hk hR hT he => ?_)
  replace hR : Γ.R = rmk Γ.k 1 6 := by rw [hk]; exact hR
  change GG Δ m_Eng_word Γ NN 0 0 (I, X) 0 [some (.ref (Δ.ba + 0)), some (.int (x1)), some (.int (x2)), some (.int (x3)), some (.int (x4))] []
  unfold t_Eng_word at h
  refine g_iload_n (pc := 0) (dd d_Eng_word 0 rfl) rfl ?_
  refine g_iflt (pc := 1) (tgt := 10) (dd d_Eng_word 1 rfl) (by decide) (fun q1 => ?_) (fun q1 => ?_)
  · replace h := ite_t h q1
    refine g_drop [0, 1, 2, 3, 4] ?_
    exact hb_Eng_word_10 hX hk hR he hT  h
  · replace h := ite_f h q1
    refine g_iload_n (pc := 4) (dd d_Eng_word 2 rfl) rfl ?_
    refine g_bipush (pc := 5) (v := 96) (dd d_Eng_word 3 rfl) (by decide) ?_
    refine g_icmplt (pc := 7) (tgt := 20) (dd d_Eng_word 4 rfl) (by decide) (fun q2 => ?_) (fun q2 => ?_)
    · replace h := ite_t h q2
      refine g_aload_n (pc := 20) (dd d_Eng_word 10 rfl) rfl ?_
      refine g_getr (pc := 21) (dd d_Eng_word 11 rfl) f_Eng_66 oc_Eng rfl hX.r_hd ?_
      refine g_iload_n (pc := 24) (dd d_Eng_word 12 rfl) rfl ?_
      refine g_iload_n (pc := 25) (dd d_Eng_word 13 rfl) rfl ?_
      refine g_iload_n (pc := 26) (dd d_Eng_word 14 rfl) rfl ?_
      refine g_iload (pc := 27) (dd d_Eng_word 15 rfl) rfl ?_
      cases h
    · replace h := ite_f h q2
      refine g_drop [0, 1, 2, 3, 4] ?_
      exact hb_Eng_word_10 hX hk hR he hT  h
def tEng_register_b_10 (hd : Nat) (I : IM)   : Option (Nat) := some 3
set_option maxRecDepth 20000 in
set_option maxHeartbeats 4000000 in
theorem hb_Eng_register_10 {Δ : Dx} {X : Lx} {rl hd ot pt it : Nat} (hX : EX Δ X rl hd ot pt it)   {I : IM} {Γ : Cx} (hk : Γ.k = 12) {r : Nat} (hR : Γ.R = rmk Γ.k 1 6) (he : Γ.c.exceptionTable.isEmpty = true) (hT : TgT Δ Γ (exN r) (I, X))   (h : tEng_register_b_10 hd I   = some r) : GG Δ m_Eng_register Γ NN 0 0 (I, X) 10 [none, none, none, none] [] := by
  unfold tEng_register_b_10 at h
  cases h
  exact g_throwD (pc := 10) (dd d_Eng_register 5 rfl) (dd d_Eng_register 6 rfl) (dd d_Eng_register 7 rfl) (dd d_Eng_register 8 rfl) (dd d_Eng_register 9 rfl) tx_114 th_153 hT he (by omega) hR
def t_Eng_register (hd : Nat) (x1 : Int32) (x2 : Int32) (x3 : Int32) (I : IM) : Option (Nat) := if x1 < 0 then (tEng_register_b_10 hd I  ) else (if x1 ≤ (8 : Int32) then (none) else (tEng_register_b_10 hd I  ))
set_option maxRecDepth 20000 in
set_option maxHeartbeats 4000000 in
theorem et_Eng_register {Δ : Dx} {X : Lx} {rl hd ot pt it : Nat} (hX : EX Δ X rl hd ot pt it) {x1 : Int32} {x2 : Int32} {x3 : Int32}  {I : IM}  {r : Nat} (h : t_Eng_register hd x1 x2 x3 I = some r) : EvT Δ 12 m_Eng_register [.ref (Δ.ba + 0), .int x1, .int x2, .int x3] (I, X) (exN r) := by
  refine evT_of (by decide) (Nat.le_of_ble_eq_true rfl) (fun Γ hk hR hT he => ?_)
  replace hR : Γ.R = rmk Γ.k 1 6 := by rw [hk]; exact hR
  change GG Δ m_Eng_register Γ NN 0 0 (I, X) 0 [some (.ref (Δ.ba + 0)), some (.int (x1)), some (.int (x2)), some (.int (x3))] []
  unfold t_Eng_register at h
  refine g_iload_n (pc := 0) (dd d_Eng_register 0 rfl) rfl ?_
  refine g_iflt (pc := 1) (tgt := 10) (dd d_Eng_register 1 rfl) (by decide) (fun q1 => ?_) (fun q1 => ?_)
  · replace h := ite_t h q1
    refine g_drop [0, 1, 2, 3] ?_
    exact hb_Eng_register_10 hX hk hR he hT  h
  · replace h := ite_f h q1
    refine g_iload_n (pc := 4) (dd d_Eng_register 2 rfl) rfl ?_
    refine g_bipush (pc := 5) (v := 8) (dd d_Eng_register 3 rfl) (by decide) ?_
    refine g_icmple (pc := 7) (tgt := 20) (dd d_Eng_register 4 rfl) (by decide) (fun q2 => ?_) (fun q2 => ?_)
    · replace h := ite_t h q2
      refine g_aload_n (pc := 20) (dd d_Eng_register 10 rfl) rfl ?_
      refine g_getr (pc := 21) (dd d_Eng_register 11 rfl) f_Eng_66 oc_Eng rfl hX.r_hd ?_
      refine g_iload_n (pc := 24) (dd d_Eng_register 12 rfl) rfl ?_
      refine g_iload_n (pc := 25) (dd d_Eng_register 13 rfl) rfl ?_
      refine g_iload_n (pc := 26) (dd d_Eng_register 14 rfl) rfl ?_
      cases h
    · replace h := ite_f h q2
      refine g_drop [0, 1, 2, 3] ?_
      exact hb_Eng_register_10 hX hk hR he hT  h
def t_Eng_input (hd : Nat) (x1 : Int32) (x2 : Int32) (I : IM) : Option (Nat) := if (I (hd + 13) (5 : Int32).toNatClampNeg : Int32) < (16 : Int32) then (none) else (some 2)
set_option maxRecDepth 20000 in
set_option maxHeartbeats 4000000 in
theorem et_Eng_input {Δ : Dx} {X : Lx} {rl hd ot pt it : Nat} (hX : EX Δ X rl hd ot pt it) {x1 : Int32} {x2 : Int32}  {I : IM}  {r : Nat} (h : t_Eng_input hd x1 x2 I = some r) : EvT Δ 12 m_Eng_input [.ref (Δ.ba + 0), .int x1, .int x2] (I, X) (exN r) := by
  refine evT_of (by decide) (Nat.le_of_ble_eq_true rfl) (fun Γ hk hR hT he => ?_)
  replace hR : Γ.R = rmk Γ.k 1 6 := by rw [hk]; exact hR
  change GG Δ m_Eng_input Γ NN 0 0 (I, X) 0 [some (.ref (Δ.ba + 0)), some (.int (x1)), some (.int (x2))] []
  unfold t_Eng_input at h
  refine g_aload_n (pc := 0) (dd d_Eng_input 0 rfl) rfl ?_
  refine g_getr (pc := 1) (dd d_Eng_input 1 rfl) f_Eng_66 oc_Eng rfl hX.r_hd ?_
  refine g_getr (pc := 4) (dd d_Eng_input 2 rfl) f_Eng_158 (oc_Mch hX.i_hd) rfl (rx_Mch_15 hX hX.i_hd) ?_
  refine g_iconst (pc := 7) (v := 5) (dd d_Eng_input 3 rfl) (by decide) ?_
  refine g_iald (pc := 8) (dd d_Eng_input 4 rfl) (ax_Mch_15 hX.i_hd) (by rw [vp_in_iff]; decide) ?_
  refine g_bipush (pc := 9) (v := 16) (dd d_Eng_input 5 rfl) (by decide) ?_
  refine g_icmplt (pc := 11) (tgt := 24) (dd d_Eng_input 6 rfl) (by decide) (fun q1 => ?_) (fun q1 => ?_)
  · replace h := ite_t h q1
    refine g_aload_n (pc := 24) (dd d_Eng_input 12 rfl) rfl ?_
    refine g_getr (pc := 25) (dd d_Eng_input 13 rfl) f_Eng_66 oc_Eng rfl hX.r_hd ?_
    refine g_iload_n (pc := 28) (dd d_Eng_input 14 rfl) rfl ?_
    refine g_iload_n (pc := 29) (dd d_Eng_input 15 rfl) rfl ?_
    cases h
  · replace h := ite_f h q1
    cases h
    exact g_throwD (pc := 14) (dd d_Eng_input 7 rfl) (dd d_Eng_input 8 rfl) (dd d_Eng_input 9 rfl) (dd d_Eng_input 10 rfl) (dd d_Eng_input 11 rfl) tx_88 th_161 hT he (by omega) hR
def tEng_run_b_11 (n : Nat) (rl : Nat) (hd : Nat) (I : IM)   : Option (Nat) := some 1
set_option maxRecDepth 20000 in
set_option maxHeartbeats 4000000 in
theorem hb_Eng_run_11 {Δ : Dx} {X : Lx} {rl hd ot pt it : Nat} (hX : EX Δ X rl hd ot pt it)   {n : Nat} {I : IM} {Γ : Cx} (hk : Γ.k = 12) {r : Nat} (hR : Γ.R = rmk Γ.k 1 6) (he : Γ.c.exceptionTable.isEmpty = true) (hT : TgT Δ Γ (exN r) (I, X))   (h : tEng_run_b_11 n rl hd I   = some r) : GG Δ m_Eng_run Γ NN 0 0 (I, X) 11 [none, none, none, none] [] := by
  unfold tEng_run_b_11 at h
  cases h
  exact g_throwD (pc := 11) (dd d_Eng_run 5 rfl) (dd d_Eng_run 6 rfl) (dd d_Eng_run 7 rfl) (dd d_Eng_run 8 rfl) (dd d_Eng_run 9 rfl) tx_77 th_166 hT he (by omega) hR
def tEng_run_b_112 (n : Nat) (rl : Nat) (hd : Nat) (I : IM)  (x2 : Int32) : Option (Nat) := none
set_option maxRecDepth 20000 in
set_option maxHeartbeats 4000000 in
theorem hb_Eng_run_112 {Δ : Dx} {X : Lx} {rl hd ot pt it : Nat} (hX : EX Δ X rl hd ot pt it)   {n : Nat} {I : IM} {Γ : Cx} (hk : Γ.k = 12) {r : Nat} (hR : Γ.R = rmk Γ.k 1 6) (he : Γ.c.exceptionTable.isEmpty = true) (hT : TgT Δ Γ (exN r) (I, X))  {x2 : Int32} (h : tEng_run_b_112 n rl hd I  x2 = some r) : GG Δ m_Eng_run Γ NN 0 0 (I, X) 112 [none, none, some (.int (x2)), none] [] := by
  unfold tEng_run_b_112 at h
  refine g_iload_n (pc := 112) (dd d_Eng_run 58 rfl) rfl ?_
  cases h
def tEng_run_l_60 (n : Nat) (rl : Nat) (hd : Nat) (I : IM)  : Nat → Int32 → Int32 → Int32 → Option (Nat)
  | 0, _, _, _ => none
  | f + 1, x1, x2, x3 => if x1 ≤ x3 then (tEng_run_b_112 n rl hd I  x2) else (none)
set_option maxRecDepth 20000 in
set_option maxHeartbeats 4000000 in
theorem hl_Eng_run_60 {Δ : Dx} {X : Lx} {rl hd ot pt it : Nat} (hX : EX Δ X rl hd ot pt it)   {n : Nat} {I : IM} {Γ : Cx} (hk : Γ.k = 12) {r : Nat} (hR : Γ.R = rmk Γ.k 1 6) (he : Γ.c.exceptionTable.isEmpty = true) (hT : TgT Δ Γ (exN r) (I, X))  : ∀ (f : Nat) (x1 : Int32) (x2 : Int32) (x3 : Int32), tEng_run_l_60 n rl hd I  f x1 x2 x3 = some r → GG Δ m_Eng_run Γ NN 0 0 (I, X) 60 [some (.ref (Δ.ba + 0)), some (.int (x1)), some (.int (x2)), some (.int (x3))] []
  | 0, _, _, _, h => by cases h
  | f + 1, x1, x2, x3, h => by
    have ih := hl_Eng_run_60 (n := n) hX hk hR he hT  f
    rw [tEng_run_l_60] at h
    refine g_iload_n (pc := 60) (dd d_Eng_run 32 rfl) rfl ?_
    refine g_iload_n (pc := 61) (dd d_Eng_run 33 rfl) rfl ?_
    refine g_icmpge (pc := 62) (tgt := 112) (dd d_Eng_run 34 rfl) (by decide) (fun q5 => ?_) (fun q5 => ?_)
    · replace h := ite_t h q5
      refine g_drop [0, 1, 3] ?_
      exact hb_Eng_run_112 hX hk hR he hT  h
    · replace h := ite_f h q5
      refine g_iload_n (pc := 65) (dd d_Eng_run 35 rfl) rfl ?_
      refine g_aload_n (pc := 66) (dd d_Eng_run 36 rfl) rfl ?_
      refine g_getr (pc := 67) (dd d_Eng_run 37 rfl) f_Eng_35 oc_Eng rfl (rx_Eng_3 hX) ?_
      refine g_aload_n (pc := 70) (dd d_Eng_run 38 rfl) rfl ?_
      refine g_getr (pc := 71) (dd d_Eng_run 39 rfl) f_Eng_66 oc_Eng rfl hX.r_hd ?_
      refine g_aload_n (pc := 74) (dd d_Eng_run 40 rfl) rfl ?_
      refine g_getr (pc := 75) (dd d_Eng_run 41 rfl) f_Eng_60 oc_Eng rfl hX.r_rl ?_
      cases h
def tEng_run_b_56 (n : Nat) (rl : Nat) (hd : Nat) (I : IM)  (x1 : Int32) : Option (Nat) := tEng_run_l_60 n rl hd I  n x1 0 0
set_option maxRecDepth 20000 in
set_option maxHeartbeats 4000000 in
theorem hb_Eng_run_56 {Δ : Dx} {X : Lx} {rl hd ot pt it : Nat} (hX : EX Δ X rl hd ot pt it)   {n : Nat} {I : IM} {Γ : Cx} (hk : Γ.k = 12) {r : Nat} (hR : Γ.R = rmk Γ.k 1 6) (he : Γ.c.exceptionTable.isEmpty = true) (hT : TgT Δ Γ (exN r) (I, X))  {x1 : Int32} (h : tEng_run_b_56 n rl hd I  x1 = some r) : GG Δ m_Eng_run Γ NN 0 0 (I, X) 56 [some (.ref (Δ.ba + 0)), some (.int (x1)), none, none] [] := by
  unfold tEng_run_b_56 at h
  refine g_iconst (pc := 56) (v := 0) (dd d_Eng_run 28 rfl) (by decide) ?_
  refine g_istore_n (pc := 57) (dd d_Eng_run 29 rfl) (by decide) ?_
  refine g_iconst (pc := 58) (v := 0) (dd d_Eng_run 30 rfl) (by decide) ?_
  refine g_istore_n (pc := 59) (dd d_Eng_run 31 rfl) (by decide) ?_
  exact hl_Eng_run_60 hX hk hR he hT  _ _ _ _ h
def t_Eng_run (n : Nat) (rl : Nat) (hd : Nat) (x1 : Int32) (I : IM) : Option (Nat) := if x1 < 0 then (tEng_run_b_11 n rl hd I  ) else (if x1 ≤ (2000 : Int32) then (if (I (hd + 13) (0 : Int32).toNatClampNeg : Int32) = 0 then (tEng_run_b_56 n rl hd I  x1) else (if (I (hd + 13) (0 : Int32).toNatClampNeg : Int32) = (5 : Int32) then (tEng_run_b_56 n rl hd I  x1) else (some 4))) else (tEng_run_b_11 n rl hd I  ))
set_option maxRecDepth 20000 in
set_option maxHeartbeats 4000000 in
theorem et_Eng_run {Δ : Dx} {X : Lx} {rl hd ot pt it : Nat} (hX : EX Δ X rl hd ot pt it) {n : Nat} {x1 : Int32}  {I : IM}  {r : Nat} (h : t_Eng_run n rl hd x1 I = some r) : EvT Δ 12 m_Eng_run [.ref (Δ.ba + 0), .int x1] (I, X) (exN r) := by
  refine evT_of (by decide) (Nat.le_of_ble_eq_true rfl) (fun Γ hk hR hT he => ?_)
  replace hR : Γ.R = rmk Γ.k 1 6 := by rw [hk]; exact hR
  change GG Δ m_Eng_run Γ NN 0 0 (I, X) 0 [some (.ref (Δ.ba + 0)), some (.int (x1)), none, none] []
  unfold t_Eng_run at h
  refine g_iload_n (pc := 0) (dd d_Eng_run 0 rfl) rfl ?_
  refine g_iflt (pc := 1) (tgt := 11) (dd d_Eng_run 1 rfl) (by decide) (fun q1 => ?_) (fun q1 => ?_)
  · replace h := ite_t h q1
    refine g_drop [0, 1] ?_
    exact hb_Eng_run_11 hX hk hR he hT  h
  · replace h := ite_f h q1
    refine g_iload_n (pc := 4) (dd d_Eng_run 2 rfl) rfl ?_
    refine g_sipush (pc := 5) (v := 2000) (dd d_Eng_run 3 rfl) (by decide) ?_
    refine g_icmple (pc := 8) (tgt := 21) (dd d_Eng_run 4 rfl) (by decide) (fun q2 => ?_) (fun q2 => ?_)
    · replace h := ite_t h q2
      refine g_aload_n (pc := 21) (dd d_Eng_run 10 rfl) rfl ?_
      refine g_getr (pc := 22) (dd d_Eng_run 11 rfl) f_Eng_66 oc_Eng rfl hX.r_hd ?_
      refine g_getr (pc := 25) (dd d_Eng_run 12 rfl) f_Eng_158 (oc_Mch hX.i_hd) rfl (rx_Mch_15 hX hX.i_hd) ?_
      refine g_iconst (pc := 28) (v := 0) (dd d_Eng_run 13 rfl) (by decide) ?_
      refine g_iald (pc := 29) (dd d_Eng_run 14 rfl) (ax_Mch_15 hX.i_hd) (by rw [vp_in_iff]; decide) ?_
      refine g_ifeq (pc := 30) (tgt := 56) (dd d_Eng_run 15 rfl) (by decide) (fun q3 => ?_) (fun q3 => ?_)
      · replace h := ite_t h q3
        exact hb_Eng_run_56 hX hk hR he hT  h
      · replace h := ite_f h q3
        refine g_aload_n (pc := 33) (dd d_Eng_run 16 rfl) rfl ?_
        refine g_getr (pc := 34) (dd d_Eng_run 17 rfl) f_Eng_66 oc_Eng rfl hX.r_hd ?_
        refine g_getr (pc := 37) (dd d_Eng_run 18 rfl) f_Eng_158 (oc_Mch hX.i_hd) rfl (rx_Mch_15 hX hX.i_hd) ?_
        refine g_iconst (pc := 40) (v := 0) (dd d_Eng_run 19 rfl) (by decide) ?_
        refine g_iald (pc := 41) (dd d_Eng_run 20 rfl) (ax_Mch_15 hX.i_hd) (by rw [vp_in_iff]; decide) ?_
        refine g_iconst (pc := 42) (v := 5) (dd d_Eng_run 21 rfl) (by decide) ?_
        refine g_icmpeq (pc := 43) (tgt := 56) (dd d_Eng_run 22 rfl) (by decide) (fun q4 => ?_) (fun q4 => ?_)
        · replace h := ite_t h q4
          exact hb_Eng_run_56 hX hk hR he hT  h
        · replace h := ite_f h q4
          cases h
          exact g_throwD (pc := 46) (dd d_Eng_run 23 rfl) (dd d_Eng_run 24 rfl) (dd d_Eng_run 25 rfl) (dd d_Eng_run 26 rfl) (dd d_Eng_run 27 rfl) tx_168 th_170 hT he (by omega) hR
    · replace h := ite_f h q2
      refine g_drop [0, 1] ?_
      exact hb_Eng_run_11 hX hk hR he hT  h
def tEng_state_b_10 (hd : Nat) (I : IM)   : Option (Nat) := some 1
set_option maxRecDepth 20000 in
set_option maxHeartbeats 4000000 in
theorem hb_Eng_state_10 {Δ : Dx} {X : Lx} {rl hd ot pt it : Nat} (hX : EX Δ X rl hd ot pt it)   {I : IM} {Γ : Cx} (hk : Γ.k = 12) {r : Nat} (hR : Γ.R = rmk Γ.k 1 6) (he : Γ.c.exceptionTable.isEmpty = true) (hT : TgT Δ Γ (exN r) (I, X))   (h : tEng_state_b_10 hd I   = some r) : GG Δ m_Eng_state Γ NN 0 0 (I, X) 10 [none, none] [] := by
  unfold tEng_state_b_10 at h
  cases h
  exact g_throwD (pc := 10) (dd d_Eng_state 5 rfl) (dd d_Eng_state 6 rfl) (dd d_Eng_state 7 rfl) (dd d_Eng_state 8 rfl) (dd d_Eng_state 9 rfl) tx_77 th_177 hT he (by omega) hR
def tEng_state_b_65 (hd : Nat) (I : IM)  (y0 : Int32) : Option (Nat) := none
set_option maxRecDepth 20000 in
set_option maxHeartbeats 4000000 in
theorem hb_Eng_state_65 {Δ : Dx} {X : Lx} {rl hd ot pt it : Nat} (hX : EX Δ X rl hd ot pt it)   {I : IM} {Γ : Cx} (hk : Γ.k = 12) {r : Nat} (hR : Γ.R = rmk Γ.k 1 6) (he : Γ.c.exceptionTable.isEmpty = true) (hT : TgT Δ Γ (exN r) (I, X))  {y0 : Int32} (h : tEng_state_b_65 hd I  y0 = some r) : GG Δ m_Eng_state Γ NN 0 0 (I, X) 65 [none, none] [.int (y0)] := by
  unfold tEng_state_b_65 at h
  cases h
def t_Eng_state (hd : Nat) (x1 : Int32) (I : IM) : Option (Nat) := if x1 < 0 then (tEng_state_b_10 hd I  ) else (if x1 ≤ (9 : Int32) then (if x1 = (8 : Int32) then (none) else (if x1 = (9 : Int32) then (tEng_state_b_65 hd I  (I (hd + 17) 0)) else (chk (inb x1 8) <| tEng_state_b_65 hd I  (I (hd + 13) x1.toNatClampNeg)))) else (tEng_state_b_10 hd I  ))
set_option maxRecDepth 20000 in
set_option maxHeartbeats 4000000 in
theorem et_Eng_state {Δ : Dx} {X : Lx} {rl hd ot pt it : Nat} (hX : EX Δ X rl hd ot pt it) {x1 : Int32}  {I : IM}  {r : Nat} (h : t_Eng_state hd x1 I = some r) : EvT Δ 12 m_Eng_state [.ref (Δ.ba + 0), .int x1] (I, X) (exN r) := by
  refine evT_of (by decide) (Nat.le_of_ble_eq_true rfl) (fun Γ hk hR hT he => ?_)
  replace hR : Γ.R = rmk Γ.k 1 6 := by rw [hk]; exact hR
  change GG Δ m_Eng_state Γ NN 0 0 (I, X) 0 [some (.ref (Δ.ba + 0)), some (.int (x1))] []
  unfold t_Eng_state at h
  refine g_iload_n (pc := 0) (dd d_Eng_state 0 rfl) rfl ?_
  refine g_iflt (pc := 1) (tgt := 10) (dd d_Eng_state 1 rfl) (by decide) (fun q1 => ?_) (fun q1 => ?_)
  · replace h := ite_t h q1
    refine g_drop [0, 1] ?_
    exact hb_Eng_state_10 hX hk hR he hT  h
  · replace h := ite_f h q1
    refine g_iload_n (pc := 4) (dd d_Eng_state 2 rfl) rfl ?_
    refine g_bipush (pc := 5) (v := 9) (dd d_Eng_state 3 rfl) (by decide) ?_
    refine g_icmple (pc := 7) (tgt := 20) (dd d_Eng_state 4 rfl) (by decide) (fun q2 => ?_) (fun q2 => ?_)
    · replace h := ite_t h q2
      refine g_iload_n (pc := 20) (dd d_Eng_state 10 rfl) rfl ?_
      refine g_bipush (pc := 21) (v := 8) (dd d_Eng_state 11 rfl) (by decide) ?_
      refine g_icmpne (pc := 23) (tgt := 37) (dd d_Eng_state 12 rfl) (by decide) (fun q3 => ?_) (fun q3 => ?_)
      · replace h := ite_f h q3
        refine g_iload_n (pc := 37) (dd d_Eng_state 18 rfl) rfl ?_
        refine g_bipush (pc := 38) (v := 9) (dd d_Eng_state 19 rfl) (by decide) ?_
        refine g_icmpne (pc := 40) (tgt := 56) (dd d_Eng_state 20 rfl) (by decide) (fun q4 => ?_) (fun q4 => ?_)
        · replace h := ite_f h q4
          refine g_aload_n (pc := 56) (dd d_Eng_state 26 rfl) rfl ?_
          refine g_getr (pc := 57) (dd d_Eng_state 27 rfl) f_Eng_66 oc_Eng rfl hX.r_hd ?_
          refine g_getr (pc := 60) (dd d_Eng_state 28 rfl) f_Eng_158 (oc_Mch hX.i_hd) rfl (rx_Mch_15 hX hX.i_hd) ?_
          refine g_iload_n (pc := 63) (dd d_Eng_state 29 rfl) rfl ?_
          obtain ⟨c5, h⟩ := chk_e h
          refine g_iald (pc := 64) (dd d_Eng_state 30 rfl) (ax_Mch_15 hX.i_hd) c5 ?_
          refine g_drop [0, 1] ?_
          exact hb_Eng_state_65 hX hk hR he hT  h
        · replace h := ite_t h q4
          refine g_aload_n (pc := 43) (dd d_Eng_state 21 rfl) rfl ?_
          refine g_getr (pc := 44) (dd d_Eng_state 22 rfl) f_Eng_66 oc_Eng rfl hX.r_hd ?_
          refine g_getr (pc := 47) (dd d_Eng_state 23 rfl) f_Eng_188 (oc_Mch hX.i_hd) rfl (rx_Mch_18 hX hX.i_hd) ?_
          refine g_geti (pc := 50) (dd d_Eng_state 24 rfl) f_Eng_183 (oc_Rng (ir_18 hX.i_hd)) rfl ?_
          refine g_goto (pc := 53) (tgt := 65) (dd d_Eng_state 25 rfl) (by decide) ?_
          refine g_drop [0, 1] ?_
          exact hb_Eng_state_65 hX hk hR he hT  h
      · replace h := ite_t h q3
        refine g_aload_n (pc := 26) (dd d_Eng_state 13 rfl) rfl ?_
        refine g_getr (pc := 27) (dd d_Eng_state 14 rfl) f_Eng_66 oc_Eng rfl hX.r_hd ?_
        refine g_getr (pc := 30) (dd d_Eng_state 15 rfl) f_Eng_179 (oc_Mch hX.i_hd) rfl (rx_Mch_17 hX hX.i_hd) ?_
        refine g_geti (pc := 33) (dd d_Eng_state 16 rfl) f_Eng_183 (oc_Rng (ir_17 hX.i_hd)) rfl ?_
        cases h
    · replace h := ite_f h q2
      refine g_drop [0, 1] ?_
      exact hb_Eng_state_10 hX hk hR he hT  h
def tEng_registerOf_b_10 (hd : Nat) (I : IM)   : Option (Nat) := some 3
set_option maxRecDepth 20000 in
set_option maxHeartbeats 4000000 in
theorem hb_Eng_registerOf_10 {Δ : Dx} {X : Lx} {rl hd ot pt it : Nat} (hX : EX Δ X rl hd ot pt it)   {I : IM} {Γ : Cx} (hk : Γ.k = 12) {r : Nat} (hR : Γ.R = rmk Γ.k 1 6) (he : Γ.c.exceptionTable.isEmpty = true) (hT : TgT Δ Γ (exN r) (I, X))   (h : tEng_registerOf_b_10 hd I   = some r) : GG Δ m_Eng_registerOf Γ NN 0 0 (I, X) 10 [none, none, none] [] := by
  unfold tEng_registerOf_b_10 at h
  cases h
  exact g_throwD (pc := 10) (dd d_Eng_registerOf 5 rfl) (dd d_Eng_registerOf 6 rfl) (dd d_Eng_registerOf 7 rfl) (dd d_Eng_registerOf 8 rfl) (dd d_Eng_registerOf 9 rfl) tx_114 th_153 hT he (by omega) hR
def tEng_registerOf_b_29 (hd : Nat) (I : IM)   : Option (Nat) := some 1
set_option maxRecDepth 20000 in
set_option maxHeartbeats 4000000 in
theorem hb_Eng_registerOf_29 {Δ : Dx} {X : Lx} {rl hd ot pt it : Nat} (hX : EX Δ X rl hd ot pt it)   {I : IM} {Γ : Cx} (hk : Γ.k = 12) {r : Nat} (hR : Γ.R = rmk Γ.k 1 6) (he : Γ.c.exceptionTable.isEmpty = true) (hT : TgT Δ Γ (exN r) (I, X))   (h : tEng_registerOf_b_29 hd I   = some r) : GG Δ m_Eng_registerOf Γ NN 0 0 (I, X) 29 [none, none, none] [] := by
  unfold tEng_registerOf_b_29 at h
  cases h
  exact g_throwD (pc := 29) (dd d_Eng_registerOf 15 rfl) (dd d_Eng_registerOf 16 rfl) (dd d_Eng_registerOf 17 rfl) (dd d_Eng_registerOf 18 rfl) (dd d_Eng_registerOf 19 rfl) tx_77 th_138 hT he (by omega) hR
def tEng_registerOf_b_64 (hd : Nat) (I : IM)  (y0 : Int32) : Option (Nat) := none
set_option maxRecDepth 20000 in
set_option maxHeartbeats 4000000 in
theorem hb_Eng_registerOf_64 {Δ : Dx} {X : Lx} {rl hd ot pt it : Nat} (hX : EX Δ X rl hd ot pt it)   {I : IM} {Γ : Cx} (hk : Γ.k = 12) {r : Nat} (hR : Γ.R = rmk Γ.k 1 6) (he : Γ.c.exceptionTable.isEmpty = true) (hT : TgT Δ Γ (exN r) (I, X))  {y0 : Int32} (h : tEng_registerOf_b_64 hd I  y0 = some r) : GG Δ m_Eng_registerOf Γ NN 0 0 (I, X) 64 [none, none, none] [.int (y0)] := by
  unfold tEng_registerOf_b_64 at h
  cases h
def t_Eng_registerOf (hd : Nat) (x1 : Int32) (x2 : Int32) (I : IM) : Option (Nat) := if x1 < 0 then (tEng_registerOf_b_10 hd I  ) else (if x1 ≤ (8 : Int32) then (if x2 < 0 then (tEng_registerOf_b_29 hd I  ) else (if x2 ≤ (1 : Int32) then (if x2 = 0 then (chk (inb x1 9) <| tEng_registerOf_b_64 hd I  (I (hd + 6) x1.toNatClampNeg)) else (chk (inb x1 9) <| tEng_registerOf_b_64 hd I  (I (hd + 7) x1.toNatClampNeg))) else (tEng_registerOf_b_29 hd I  ))) else (tEng_registerOf_b_10 hd I  ))
set_option maxRecDepth 20000 in
set_option maxHeartbeats 4000000 in
theorem et_Eng_registerOf {Δ : Dx} {X : Lx} {rl hd ot pt it : Nat} (hX : EX Δ X rl hd ot pt it) {x1 : Int32} {x2 : Int32}  {I : IM}  {r : Nat} (h : t_Eng_registerOf hd x1 x2 I = some r) : EvT Δ 12 m_Eng_registerOf [.ref (Δ.ba + 0), .int x1, .int x2] (I, X) (exN r) := by
  refine evT_of (by decide) (Nat.le_of_ble_eq_true rfl) (fun Γ hk hR hT he => ?_)
  replace hR : Γ.R = rmk Γ.k 1 6 := by rw [hk]; exact hR
  change GG Δ m_Eng_registerOf Γ NN 0 0 (I, X) 0 [some (.ref (Δ.ba + 0)), some (.int (x1)), some (.int (x2))] []
  unfold t_Eng_registerOf at h
  refine g_iload_n (pc := 0) (dd d_Eng_registerOf 0 rfl) rfl ?_
  refine g_iflt (pc := 1) (tgt := 10) (dd d_Eng_registerOf 1 rfl) (by decide) (fun q1 => ?_) (fun q1 => ?_)
  · replace h := ite_t h q1
    refine g_drop [0, 1, 2] ?_
    exact hb_Eng_registerOf_10 hX hk hR he hT  h
  · replace h := ite_f h q1
    refine g_iload_n (pc := 4) (dd d_Eng_registerOf 2 rfl) rfl ?_
    refine g_bipush (pc := 5) (v := 8) (dd d_Eng_registerOf 3 rfl) (by decide) ?_
    refine g_icmple (pc := 7) (tgt := 20) (dd d_Eng_registerOf 4 rfl) (by decide) (fun q2 => ?_) (fun q2 => ?_)
    · replace h := ite_t h q2
      refine g_iload_n (pc := 20) (dd d_Eng_registerOf 10 rfl) rfl ?_
      refine g_iflt (pc := 21) (tgt := 29) (dd d_Eng_registerOf 11 rfl) (by decide) (fun q3 => ?_) (fun q3 => ?_)
      · replace h := ite_t h q3
        refine g_drop [0, 1, 2] ?_
        exact hb_Eng_registerOf_29 hX hk hR he hT  h
      · replace h := ite_f h q3
        refine g_iload_n (pc := 24) (dd d_Eng_registerOf 12 rfl) rfl ?_
        refine g_iconst (pc := 25) (v := 1) (dd d_Eng_registerOf 13 rfl) (by decide) ?_
        refine g_icmple (pc := 26) (tgt := 39) (dd d_Eng_registerOf 14 rfl) (by decide) (fun q4 => ?_) (fun q4 => ?_)
        · replace h := ite_t h q4
          refine g_iload_n (pc := 39) (dd d_Eng_registerOf 20 rfl) rfl ?_
          refine g_ifne (pc := 40) (tgt := 55) (dd d_Eng_registerOf 21 rfl) (by decide) (fun q5 => ?_) (fun q5 => ?_)
          · replace h := ite_f h q5
            refine g_aload_n (pc := 55) (dd d_Eng_registerOf 28 rfl) rfl ?_
            refine g_getr (pc := 56) (dd d_Eng_registerOf 29 rfl) f_Eng_66 oc_Eng rfl hX.r_hd ?_
            refine g_getr (pc := 59) (dd d_Eng_registerOf 30 rfl) f_Eng_194 (oc_Mch hX.i_hd) rfl (rx_Mch_9 hX hX.i_hd) ?_
            refine g_iload_n (pc := 62) (dd d_Eng_registerOf 31 rfl) rfl ?_
            obtain ⟨c6, h⟩ := chk_e h
            refine g_iald (pc := 63) (dd d_Eng_registerOf 32 rfl) (ax_Mch_9 hX.i_hd) c6 ?_
            refine g_drop [0, 1, 2] ?_
            exact hb_Eng_registerOf_64 hX hk hR he hT  h
          · replace h := ite_t h q5
            refine g_aload_n (pc := 43) (dd d_Eng_registerOf 22 rfl) rfl ?_
            refine g_getr (pc := 44) (dd d_Eng_registerOf 23 rfl) f_Eng_66 oc_Eng rfl hX.r_hd ?_
            refine g_getr (pc := 47) (dd d_Eng_registerOf 24 rfl) f_Eng_191 (oc_Mch hX.i_hd) rfl (rx_Mch_8 hX hX.i_hd) ?_
            refine g_iload_n (pc := 50) (dd d_Eng_registerOf 25 rfl) rfl ?_
            obtain ⟨c7, h⟩ := chk_e h
            refine g_iald (pc := 51) (dd d_Eng_registerOf 26 rfl) (ax_Mch_8 hX.i_hd) c7 ?_
            refine g_goto (pc := 52) (tgt := 64) (dd d_Eng_registerOf 27 rfl) (by decide) ?_
            refine g_drop [0, 1, 2] ?_
            exact hb_Eng_registerOf_64 hX hk hR he hT  h
        · replace h := ite_f h q4
          refine g_drop [0, 1, 2] ?_
          exact hb_Eng_registerOf_29 hX hk hR he hT  h
    · replace h := ite_f h q2
      refine g_drop [0, 1, 2] ?_
      exact hb_Eng_registerOf_10 hX hk hR he hT  h
def tEng_wordOf_b_10 (hd : Nat) (I : IM)   : Option (Nat) := some 3
set_option maxRecDepth 20000 in
set_option maxHeartbeats 4000000 in
theorem hb_Eng_wordOf_10 {Δ : Dx} {X : Lx} {rl hd ot pt it : Nat} (hX : EX Δ X rl hd ot pt it)   {I : IM} {Γ : Cx} (hk : Γ.k = 12) {r : Nat} (hR : Γ.R = rmk Γ.k 1 6) (he : Γ.c.exceptionTable.isEmpty = true) (hT : TgT Δ Γ (exN r) (I, X))   (h : tEng_wordOf_b_10 hd I   = some r) : GG Δ m_Eng_wordOf Γ NN 0 0 (I, X) 10 [none, none, none] [] := by
  unfold tEng_wordOf_b_10 at h
  cases h
  exact g_throwD (pc := 10) (dd d_Eng_wordOf 5 rfl) (dd d_Eng_wordOf 6 rfl) (dd d_Eng_wordOf 7 rfl) (dd d_Eng_wordOf 8 rfl) (dd d_Eng_wordOf 9 rfl) tx_114 th_147 hT he (by omega) hR
def tEng_wordOf_b_29 (hd : Nat) (I : IM)   : Option (Nat) := some 1
set_option maxRecDepth 20000 in
set_option maxHeartbeats 4000000 in
theorem hb_Eng_wordOf_29 {Δ : Dx} {X : Lx} {rl hd ot pt it : Nat} (hX : EX Δ X rl hd ot pt it)   {I : IM} {Γ : Cx} (hk : Γ.k = 12) {r : Nat} (hR : Γ.R = rmk Γ.k 1 6) (he : Γ.c.exceptionTable.isEmpty = true) (hT : TgT Δ Γ (exN r) (I, X))   (h : tEng_wordOf_b_29 hd I   = some r) : GG Δ m_Eng_wordOf Γ NN 0 0 (I, X) 29 [none, none, none] [] := by
  unfold tEng_wordOf_b_29 at h
  cases h
  exact g_throwD (pc := 29) (dd d_Eng_wordOf 15 rfl) (dd d_Eng_wordOf 16 rfl) (dd d_Eng_wordOf 17 rfl) (dd d_Eng_wordOf 18 rfl) (dd d_Eng_wordOf 19 rfl) tx_77 th_197 hT he (by omega) hR
def tEng_wordOf_b_79 (hd : Nat) (I : IM)  (y0 : Int32) : Option (Nat) := none
set_option maxRecDepth 20000 in
set_option maxHeartbeats 4000000 in
theorem hb_Eng_wordOf_79 {Δ : Dx} {X : Lx} {rl hd ot pt it : Nat} (hX : EX Δ X rl hd ot pt it)   {I : IM} {Γ : Cx} (hk : Γ.k = 12) {r : Nat} (hR : Γ.R = rmk Γ.k 1 6) (he : Γ.c.exceptionTable.isEmpty = true) (hT : TgT Δ Γ (exN r) (I, X))  {y0 : Int32} (h : tEng_wordOf_b_79 hd I  y0 = some r) : GG Δ m_Eng_wordOf Γ NN 0 0 (I, X) 79 [none, none, none] [.int (y0)] := by
  unfold tEng_wordOf_b_79 at h
  cases h
def t_Eng_wordOf (hd : Nat) (x1 : Int32) (x2 : Int32) (I : IM) : Option (Nat) := if x1 < 0 then (tEng_wordOf_b_10 hd I  ) else (if x1 < (96 : Int32) then (if x2 < 0 then (tEng_wordOf_b_29 hd I  ) else (if x2 ≤ (2 : Int32) then (if x2 = 0 then (chk (inb x1 96) <| none) else (if x2 = (1 : Int32) then (chk (inb x1 96) <| tEng_wordOf_b_79 hd I  (I (hd + 4) x1.toNatClampNeg)) else (chk (inb x1 96) <| tEng_wordOf_b_79 hd I  (I (hd + 5) x1.toNatClampNeg)))) else (tEng_wordOf_b_29 hd I  ))) else (tEng_wordOf_b_10 hd I  ))
set_option maxRecDepth 20000 in
set_option maxHeartbeats 4000000 in
theorem et_Eng_wordOf {Δ : Dx} {X : Lx} {rl hd ot pt it : Nat} (hX : EX Δ X rl hd ot pt it) {x1 : Int32} {x2 : Int32}  {I : IM}  {r : Nat} (h : t_Eng_wordOf hd x1 x2 I = some r) : EvT Δ 12 m_Eng_wordOf [.ref (Δ.ba + 0), .int x1, .int x2] (I, X) (exN r) := by
  refine evT_of (by decide) (Nat.le_of_ble_eq_true rfl) (fun Γ hk hR hT he => ?_)
  replace hR : Γ.R = rmk Γ.k 1 6 := by rw [hk]; exact hR
  change GG Δ m_Eng_wordOf Γ NN 0 0 (I, X) 0 [some (.ref (Δ.ba + 0)), some (.int (x1)), some (.int (x2))] []
  unfold t_Eng_wordOf at h
  refine g_iload_n (pc := 0) (dd d_Eng_wordOf 0 rfl) rfl ?_
  refine g_iflt (pc := 1) (tgt := 10) (dd d_Eng_wordOf 1 rfl) (by decide) (fun q1 => ?_) (fun q1 => ?_)
  · replace h := ite_t h q1
    refine g_drop [0, 1, 2] ?_
    exact hb_Eng_wordOf_10 hX hk hR he hT  h
  · replace h := ite_f h q1
    refine g_iload_n (pc := 4) (dd d_Eng_wordOf 2 rfl) rfl ?_
    refine g_bipush (pc := 5) (v := 96) (dd d_Eng_wordOf 3 rfl) (by decide) ?_
    refine g_icmplt (pc := 7) (tgt := 20) (dd d_Eng_wordOf 4 rfl) (by decide) (fun q2 => ?_) (fun q2 => ?_)
    · replace h := ite_t h q2
      refine g_iload_n (pc := 20) (dd d_Eng_wordOf 10 rfl) rfl ?_
      refine g_iflt (pc := 21) (tgt := 29) (dd d_Eng_wordOf 11 rfl) (by decide) (fun q3 => ?_) (fun q3 => ?_)
      · replace h := ite_t h q3
        refine g_drop [0, 1, 2] ?_
        exact hb_Eng_wordOf_29 hX hk hR he hT  h
      · replace h := ite_f h q3
        refine g_iload_n (pc := 24) (dd d_Eng_wordOf 12 rfl) rfl ?_
        refine g_iconst (pc := 25) (v := 2) (dd d_Eng_wordOf 13 rfl) (by decide) ?_
        refine g_icmple (pc := 26) (tgt := 39) (dd d_Eng_wordOf 14 rfl) (by decide) (fun q4 => ?_) (fun q4 => ?_)
        · replace h := ite_t h q4
          refine g_iload_n (pc := 39) (dd d_Eng_wordOf 20 rfl) rfl ?_
          refine g_ifne (pc := 40) (tgt := 53) (dd d_Eng_wordOf 21 rfl) (by decide) (fun q5 => ?_) (fun q5 => ?_)
          · replace h := ite_f h q5
            refine g_iload_n (pc := 53) (dd d_Eng_wordOf 28 rfl) rfl ?_
            refine g_iconst (pc := 54) (v := 1) (dd d_Eng_wordOf 29 rfl) (by decide) ?_
            refine g_icmpne (pc := 55) (tgt := 70) (dd d_Eng_wordOf 30 rfl) (by decide) (fun q6 => ?_) (fun q6 => ?_)
            · replace h := ite_f h q6
              refine g_aload_n (pc := 70) (dd d_Eng_wordOf 37 rfl) rfl ?_
              refine g_getr (pc := 71) (dd d_Eng_wordOf 38 rfl) f_Eng_66 oc_Eng rfl hX.r_hd ?_
              refine g_getr (pc := 74) (dd d_Eng_wordOf 39 rfl) f_Eng_205 (oc_Mch hX.i_hd) rfl (rx_Mch_7 hX hX.i_hd) ?_
              refine g_iload_n (pc := 77) (dd d_Eng_wordOf 40 rfl) rfl ?_
              obtain ⟨c7, h⟩ := chk_e h
              refine g_iald (pc := 78) (dd d_Eng_wordOf 41 rfl) (ax_Mch_7 hX.i_hd) c7 ?_
              refine g_drop [0, 1, 2] ?_
              exact hb_Eng_wordOf_79 hX hk hR he hT  h
            · replace h := ite_t h q6
              refine g_aload_n (pc := 58) (dd d_Eng_wordOf 31 rfl) rfl ?_
              refine g_getr (pc := 59) (dd d_Eng_wordOf 32 rfl) f_Eng_66 oc_Eng rfl hX.r_hd ?_
              refine g_getr (pc := 62) (dd d_Eng_wordOf 33 rfl) f_Eng_202 (oc_Mch hX.i_hd) rfl (rx_Mch_6 hX hX.i_hd) ?_
              refine g_iload_n (pc := 65) (dd d_Eng_wordOf 34 rfl) rfl ?_
              obtain ⟨c8, h⟩ := chk_e h
              refine g_iald (pc := 66) (dd d_Eng_wordOf 35 rfl) (ax_Mch_6 hX.i_hd) c8 ?_
              refine g_goto (pc := 67) (tgt := 79) (dd d_Eng_wordOf 36 rfl) (by decide) ?_
              refine g_drop [0, 1, 2] ?_
              exact hb_Eng_wordOf_79 hX hk hR he hT  h
          · replace h := ite_t h q5
            refine g_aload_n (pc := 43) (dd d_Eng_wordOf 22 rfl) rfl ?_
            refine g_getr (pc := 44) (dd d_Eng_wordOf 23 rfl) f_Eng_66 oc_Eng rfl hX.r_hd ?_
            refine g_getr (pc := 47) (dd d_Eng_wordOf 24 rfl) f_Eng_199 (oc_Mch hX.i_hd) rfl (rx_Mch_5 hX hX.i_hd) ?_
            refine g_iload_n (pc := 50) (dd d_Eng_wordOf 25 rfl) rfl ?_
            obtain ⟨c9, h⟩ := chk_e h
            refine g_iald (pc := 51) (dd d_Eng_wordOf 26 rfl) (ax_Mch_5 hX.i_hd) c9 ?_
            cases h
        · replace h := ite_f h q4
          refine g_drop [0, 1, 2] ?_
          exact hb_Eng_wordOf_29 hX hk hR he hT  h
    · replace h := ite_f h q2
      refine g_drop [0, 1, 2] ?_
      exact hb_Eng_wordOf_10 hX hk hR he hT  h
def tEng_output_b_15 (hd : Nat) (I : IM)   : Option (Nat) := some 3
set_option maxRecDepth 20000 in
set_option maxHeartbeats 4000000 in
theorem hb_Eng_output_15 {Δ : Dx} {X : Lx} {rl hd ot pt it : Nat} (hX : EX Δ X rl hd ot pt it)   {I : IM} {Γ : Cx} (hk : Γ.k = 12) {r : Nat} (hR : Γ.R = rmk Γ.k 1 6) (he : Γ.c.exceptionTable.isEmpty = true) (hT : TgT Δ Γ (exN r) (I, X))   (h : tEng_output_b_15 hd I   = some r) : GG Δ m_Eng_output Γ NN 0 0 (I, X) 15 [none, none] [] := by
  unfold tEng_output_b_15 at h
  cases h
  exact g_throwD (pc := 15) (dd d_Eng_output 7 rfl) (dd d_Eng_output 8 rfl) (dd d_Eng_output 9 rfl) (dd d_Eng_output 10 rfl) (dd d_Eng_output 11 rfl) tx_114 th_211 hT he (by omega) hR
def t_Eng_output (hd : Nat) (x1 : Int32) (I : IM) : Option (Nat) := if x1 < 0 then (tEng_output_b_15 hd I  ) else (Option.bind (f_Mch_keptOutputs  hd I) fun v2 => if x1 < v2 then (chk (inb x1 40) <| none) else (tEng_output_b_15 hd I  ))
set_option maxRecDepth 20000 in
set_option maxHeartbeats 4000000 in
theorem et_Eng_output {Δ : Dx} {X : Lx} {rl hd ot pt it : Nat} (hX : EX Δ X rl hd ot pt it) {x1 : Int32}  {I : IM}  {r : Nat} (h : t_Eng_output hd x1 I = some r) : EvT Δ 12 m_Eng_output [.ref (Δ.ba + 0), .int x1] (I, X) (exN r) := by
  refine evT_of (by decide) (Nat.le_of_ble_eq_true rfl) (fun Γ hk hR hT he => ?_)
  replace hR : Γ.R = rmk Γ.k 1 6 := by rw [hk]; exact hR
  change GG Δ m_Eng_output Γ NN 0 0 (I, X) 0 [some (.ref (Δ.ba + 0)), some (.int (x1))] []
  unfold t_Eng_output at h
  refine g_iload_n (pc := 0) (dd d_Eng_output 0 rfl) rfl ?_
  refine g_iflt (pc := 1) (tgt := 15) (dd d_Eng_output 1 rfl) (by decide) (fun q1 => ?_) (fun q1 => ?_)
  · replace h := ite_t h q1
    refine g_drop [0, 1] ?_
    exact hb_Eng_output_15 hX hk hR he hT  h
  · replace h := ite_f h q1
    refine g_iload_n (pc := 4) (dd d_Eng_output 2 rfl) rfl ?_
    refine g_aload_n (pc := 5) (dd d_Eng_output 3 rfl) rfl ?_
    refine g_getr (pc := 6) (dd d_Eng_output 4 rfl) f_Eng_66 oc_Eng rfl hX.r_hd ?_
    obtain ⟨v2, e3, h⟩ := bnd_e h
    refine g_callV (pc := 9) (dd d_Eng_output 5 rfl) v_Eng_208 (oc_Mch hX.i_hd) rfl (ef_Mch_keptOutputs hX hX.i_hd e3) rfl (by omega) (Nat.le_of_ble_eq_true rfl) ⟨Nat.zero_le _, Nat.zero_le _⟩ rfl ?_
    refine g_icmplt (pc := 12) (tgt := 25) (dd d_Eng_output 6 rfl) (by decide) (fun q4 => ?_) (fun q4 => ?_)
    · replace h := ite_t h q4
      refine g_aload_n (pc := 25) (dd d_Eng_output 12 rfl) rfl ?_
      refine g_getr (pc := 26) (dd d_Eng_output 13 rfl) f_Eng_66 oc_Eng rfl hX.r_hd ?_
      refine g_getr (pc := 29) (dd d_Eng_output 14 rfl) f_Eng_213 (oc_Mch hX.i_hd) rfl (rx_Mch_12 hX hX.i_hd) ?_
      refine g_iload_n (pc := 32) (dd d_Eng_output 15 rfl) rfl ?_
      obtain ⟨c5, h⟩ := chk_e h
      refine g_iald (pc := 33) (dd d_Eng_output 16 rfl) (ax_Mch_12 hX.i_hd) c5 ?_
      cases h
    · replace h := ite_f h q4
      refine g_drop [0, 1] ?_
      exact hb_Eng_output_15 hX hk hR he hT  h
def tEng_pairOf_b_18 (hd : Nat) (I : IM)   : Option (Nat) := some 3
set_option maxRecDepth 20000 in
set_option maxHeartbeats 4000000 in
theorem hb_Eng_pairOf_18 {Δ : Dx} {X : Lx} {rl hd ot pt it : Nat} (hX : EX Δ X rl hd ot pt it)   {I : IM} {Γ : Cx} (hk : Γ.k = 12) {r : Nat} (hR : Γ.R = rmk Γ.k 1 6) (he : Γ.c.exceptionTable.isEmpty = true) (hT : TgT Δ Γ (exN r) (I, X))   (h : tEng_pairOf_b_18 hd I   = some r) : GG Δ m_Eng_pairOf Γ NN 0 0 (I, X) 18 [none, none, none] [] := by
  unfold tEng_pairOf_b_18 at h
  cases h
  exact g_throwD (pc := 18) (dd d_Eng_pairOf 9 rfl) (dd d_Eng_pairOf 10 rfl) (dd d_Eng_pairOf 11 rfl) (dd d_Eng_pairOf 12 rfl) (dd d_Eng_pairOf 13 rfl) tx_114 th_216 hT he (by omega) hR
def tEng_pairOf_b_37 (hd : Nat) (I : IM)   : Option (Nat) := some 1
set_option maxRecDepth 20000 in
set_option maxHeartbeats 4000000 in
theorem hb_Eng_pairOf_37 {Δ : Dx} {X : Lx} {rl hd ot pt it : Nat} (hX : EX Δ X rl hd ot pt it)   {I : IM} {Γ : Cx} (hk : Γ.k = 12) {r : Nat} (hR : Γ.R = rmk Γ.k 1 6) (he : Γ.c.exceptionTable.isEmpty = true) (hT : TgT Δ Γ (exN r) (I, X))   (h : tEng_pairOf_b_37 hd I   = some r) : GG Δ m_Eng_pairOf Γ NN 0 0 (I, X) 37 [none, none, none] [] := by
  unfold tEng_pairOf_b_37 at h
  cases h
  exact g_throwD (pc := 37) (dd d_Eng_pairOf 19 rfl) (dd d_Eng_pairOf 20 rfl) (dd d_Eng_pairOf 21 rfl) (dd d_Eng_pairOf 22 rfl) (dd d_Eng_pairOf 23 rfl) tx_77 th_138 hT he (by omega) hR
def tEng_pairOf_b_72 (hd : Nat) (I : IM)  (y0 : Int32) : Option (Nat) := none
set_option maxRecDepth 20000 in
set_option maxHeartbeats 4000000 in
theorem hb_Eng_pairOf_72 {Δ : Dx} {X : Lx} {rl hd ot pt it : Nat} (hX : EX Δ X rl hd ot pt it)   {I : IM} {Γ : Cx} (hk : Γ.k = 12) {r : Nat} (hR : Γ.R = rmk Γ.k 1 6) (he : Γ.c.exceptionTable.isEmpty = true) (hT : TgT Δ Γ (exN r) (I, X))  {y0 : Int32} (h : tEng_pairOf_b_72 hd I  y0 = some r) : GG Δ m_Eng_pairOf Γ NN 0 0 (I, X) 72 [none, none, none] [.int (y0)] := by
  unfold tEng_pairOf_b_72 at h
  cases h
def t_Eng_pairOf (hd : Nat) (x1 : Int32) (x2 : Int32) (I : IM) : Option (Nat) := if x1 < 0 then (tEng_pairOf_b_18 hd I  ) else (if x1 < (I (hd + 13) (7 : Int32).toNatClampNeg : Int32) then (if x2 < 0 then (tEng_pairOf_b_37 hd I  ) else (if x2 ≤ (1 : Int32) then (if x2 = 0 then (chk (inb x1 60) <| tEng_pairOf_b_72 hd I  (I (hd + 11) x1.toNatClampNeg)) else (chk (inb x1 60) <| tEng_pairOf_b_72 hd I  (I (hd + 12) x1.toNatClampNeg))) else (tEng_pairOf_b_37 hd I  ))) else (tEng_pairOf_b_18 hd I  ))
set_option maxRecDepth 20000 in
set_option maxHeartbeats 4000000 in
theorem et_Eng_pairOf {Δ : Dx} {X : Lx} {rl hd ot pt it : Nat} (hX : EX Δ X rl hd ot pt it) {x1 : Int32} {x2 : Int32}  {I : IM}  {r : Nat} (h : t_Eng_pairOf hd x1 x2 I = some r) : EvT Δ 12 m_Eng_pairOf [.ref (Δ.ba + 0), .int x1, .int x2] (I, X) (exN r) := by
  refine evT_of (by decide) (Nat.le_of_ble_eq_true rfl) (fun Γ hk hR hT he => ?_)
  replace hR : Γ.R = rmk Γ.k 1 6 := by rw [hk]; exact hR
  change GG Δ m_Eng_pairOf Γ NN 0 0 (I, X) 0 [some (.ref (Δ.ba + 0)), some (.int (x1)), some (.int (x2))] []
  unfold t_Eng_pairOf at h
  refine g_iload_n (pc := 0) (dd d_Eng_pairOf 0 rfl) rfl ?_
  refine g_iflt (pc := 1) (tgt := 18) (dd d_Eng_pairOf 1 rfl) (by decide) (fun q1 => ?_) (fun q1 => ?_)
  · replace h := ite_t h q1
    refine g_drop [0, 1, 2] ?_
    exact hb_Eng_pairOf_18 hX hk hR he hT  h
  · replace h := ite_f h q1
    refine g_iload_n (pc := 4) (dd d_Eng_pairOf 2 rfl) rfl ?_
    refine g_aload_n (pc := 5) (dd d_Eng_pairOf 3 rfl) rfl ?_
    refine g_getr (pc := 6) (dd d_Eng_pairOf 4 rfl) f_Eng_66 oc_Eng rfl hX.r_hd ?_
    refine g_getr (pc := 9) (dd d_Eng_pairOf 5 rfl) f_Eng_158 (oc_Mch hX.i_hd) rfl (rx_Mch_15 hX hX.i_hd) ?_
    refine g_bipush (pc := 12) (v := 7) (dd d_Eng_pairOf 6 rfl) (by decide) ?_
    refine g_iald (pc := 14) (dd d_Eng_pairOf 7 rfl) (ax_Mch_15 hX.i_hd) (by rw [vp_in_iff]; decide) ?_
    refine g_icmplt (pc := 15) (tgt := 28) (dd d_Eng_pairOf 8 rfl) (by decide) (fun q2 => ?_) (fun q2 => ?_)
    · replace h := ite_t h q2
      refine g_iload_n (pc := 28) (dd d_Eng_pairOf 14 rfl) rfl ?_
      refine g_iflt (pc := 29) (tgt := 37) (dd d_Eng_pairOf 15 rfl) (by decide) (fun q3 => ?_) (fun q3 => ?_)
      · replace h := ite_t h q3
        refine g_drop [0, 1, 2] ?_
        exact hb_Eng_pairOf_37 hX hk hR he hT  h
      · replace h := ite_f h q3
        refine g_iload_n (pc := 32) (dd d_Eng_pairOf 16 rfl) rfl ?_
        refine g_iconst (pc := 33) (v := 1) (dd d_Eng_pairOf 17 rfl) (by decide) ?_
        refine g_icmple (pc := 34) (tgt := 47) (dd d_Eng_pairOf 18 rfl) (by decide) (fun q4 => ?_) (fun q4 => ?_)
        · replace h := ite_t h q4
          refine g_iload_n (pc := 47) (dd d_Eng_pairOf 24 rfl) rfl ?_
          refine g_ifne (pc := 48) (tgt := 63) (dd d_Eng_pairOf 25 rfl) (by decide) (fun q5 => ?_) (fun q5 => ?_)
          · replace h := ite_f h q5
            refine g_aload_n (pc := 63) (dd d_Eng_pairOf 32 rfl) rfl ?_
            refine g_getr (pc := 64) (dd d_Eng_pairOf 33 rfl) f_Eng_66 oc_Eng rfl hX.r_hd ?_
            refine g_getr (pc := 67) (dd d_Eng_pairOf 34 rfl) f_Eng_221 (oc_Mch hX.i_hd) rfl (rx_Mch_14 hX hX.i_hd) ?_
            refine g_iload_n (pc := 70) (dd d_Eng_pairOf 35 rfl) rfl ?_
            obtain ⟨c6, h⟩ := chk_e h
            refine g_iald (pc := 71) (dd d_Eng_pairOf 36 rfl) (ax_Mch_14 hX.i_hd) c6 ?_
            refine g_drop [0, 1, 2] ?_
            exact hb_Eng_pairOf_72 hX hk hR he hT  h
          · replace h := ite_t h q5
            refine g_aload_n (pc := 51) (dd d_Eng_pairOf 26 rfl) rfl ?_
            refine g_getr (pc := 52) (dd d_Eng_pairOf 27 rfl) f_Eng_66 oc_Eng rfl hX.r_hd ?_
            refine g_getr (pc := 55) (dd d_Eng_pairOf 28 rfl) f_Eng_218 (oc_Mch hX.i_hd) rfl (rx_Mch_13 hX hX.i_hd) ?_
            refine g_iload_n (pc := 58) (dd d_Eng_pairOf 29 rfl) rfl ?_
            obtain ⟨c7, h⟩ := chk_e h
            refine g_iald (pc := 59) (dd d_Eng_pairOf 30 rfl) (ax_Mch_13 hX.i_hd) c7 ?_
            refine g_goto (pc := 60) (tgt := 72) (dd d_Eng_pairOf 31 rfl) (by decide) ?_
            refine g_drop [0, 1, 2] ?_
            exact hb_Eng_pairOf_72 hX hk hR he hT  h
        · replace h := ite_f h q4
          refine g_drop [0, 1, 2] ?_
          exact hb_Eng_pairOf_37 hX hk hR he hT  h
    · replace h := ite_f h q2
      refine g_drop [0, 1, 2] ?_
      exact hb_Eng_pairOf_18 hX hk hR he hT  h
def tEng_names_b_10 (rl : Nat) (I : IM)   : Option (Nat) := some 1
set_option maxRecDepth 20000 in
set_option maxHeartbeats 4000000 in
theorem hb_Eng_names_10 {Δ : Dx} {X : Lx} {rl hd ot pt it : Nat} (hX : EX Δ X rl hd ot pt it)   {I : IM} {Γ : Cx} (hk : Γ.k = 12) {r : Nat} (hR : Γ.R = rmk Γ.k 1 6) (he : Γ.c.exceptionTable.isEmpty = true) (hT : TgT Δ Γ (exN r) (I, X))   (h : tEng_names_b_10 rl I   = some r) : GG Δ m_Eng_names Γ NN 0 0 (I, X) 10 [none, none] [] := by
  unfold tEng_names_b_10 at h
  cases h
  exact g_throwD (pc := 10) (dd d_Eng_names 5 rfl) (dd d_Eng_names 6 rfl) (dd d_Eng_names 7 rfl) (dd d_Eng_names 8 rfl) (dd d_Eng_names 9 rfl) tx_77 th_224 hT he (by omega) hR
def t_Eng_names (rl : Nat) (x1 : Int32) (I : IM) : Option (Nat) := if x1 < 0 then (tEng_names_b_10 rl I  ) else (if x1 < (22 : Int32) then (chk (inb x1 22) <| none) else (tEng_names_b_10 rl I  ))
set_option maxRecDepth 20000 in
set_option maxHeartbeats 4000000 in
theorem et_Eng_names {Δ : Dx} {X : Lx} {rl hd ot pt it : Nat} (hX : EX Δ X rl hd ot pt it) {x1 : Int32}  {I : IM}  {r : Nat} (h : t_Eng_names rl x1 I = some r) : EvT Δ 12 m_Eng_names [.ref (Δ.ba + 0), .int x1] (I, X) (exN r) := by
  refine evT_of (by decide) (Nat.le_of_ble_eq_true rfl) (fun Γ hk hR hT he => ?_)
  replace hR : Γ.R = rmk Γ.k 1 6 := by rw [hk]; exact hR
  change GG Δ m_Eng_names Γ NN 0 0 (I, X) 0 [some (.ref (Δ.ba + 0)), some (.int (x1))] []
  unfold t_Eng_names at h
  refine g_iload_n (pc := 0) (dd d_Eng_names 0 rfl) rfl ?_
  refine g_iflt (pc := 1) (tgt := 10) (dd d_Eng_names 1 rfl) (by decide) (fun q1 => ?_) (fun q1 => ?_)
  · replace h := ite_t h q1
    refine g_drop [0, 1] ?_
    exact hb_Eng_names_10 hX hk hR he hT  h
  · replace h := ite_f h q1
    refine g_iload_n (pc := 4) (dd d_Eng_names 2 rfl) rfl ?_
    refine g_bipush (pc := 5) (v := 22) (dd d_Eng_names 3 rfl) (by decide) ?_
    refine g_icmplt (pc := 7) (tgt := 20) (dd d_Eng_names 4 rfl) (by decide) (fun q2 => ?_) (fun q2 => ?_)
    · replace h := ite_t h q2
      refine g_aload_n (pc := 20) (dd d_Eng_names 10 rfl) rfl ?_
      refine g_getr (pc := 21) (dd d_Eng_names 11 rfl) f_Eng_60 oc_Eng rfl hX.r_rl ?_
      refine g_getr (pc := 24) (dd d_Eng_names 12 rfl) f_Eng_226 (oc_Pol hX.i_rl) rfl (rx_Pol_5 hX hX.i_rl) ?_
      refine g_iload_n (pc := 27) (dd d_Eng_names 13 rfl) rfl ?_
      obtain ⟨c3, h⟩ := chk_e h
      refine g_iald (pc := 28) (dd d_Eng_names 14 rfl) (ax_Pol_5 hX.i_rl) c3 ?_
      cases h
    · replace h := ite_f h q2
      refine g_drop [0, 1] ?_
      exact hb_Eng_names_10 hX hk hR he hT  h
def tEng_journal_b_18 (hd : Nat) (I : IM)   : Option (Nat) := some 3
set_option maxRecDepth 20000 in
set_option maxHeartbeats 4000000 in
theorem hb_Eng_journal_18 {Δ : Dx} {X : Lx} {rl hd ot pt it : Nat} (hX : EX Δ X rl hd ot pt it)   {I : IM} {Γ : Cx} (hk : Γ.k = 12) {r : Nat} (hR : Γ.R = rmk Γ.k 1 6) (he : Γ.c.exceptionTable.isEmpty = true) (hT : TgT Δ Γ (exN r) (I, X))   (h : tEng_journal_b_18 hd I   = some r) : GG Δ m_Eng_journal Γ NN 0 0 (I, X) 18 [none, none, none] [] := by
  unfold tEng_journal_b_18 at h
  cases h
  exact g_throwD (pc := 18) (dd d_Eng_journal 8 rfl) (dd d_Eng_journal 9 rfl) (dd d_Eng_journal 10 rfl) (dd d_Eng_journal 11 rfl) (dd d_Eng_journal 12 rfl) tx_114 th_232 hT he (by omega) hR
def tEng_journal_b_38 (hd : Nat) (I : IM)   : Option (Nat) := some 1
set_option maxRecDepth 20000 in
set_option maxHeartbeats 4000000 in
theorem hb_Eng_journal_38 {Δ : Dx} {X : Lx} {rl hd ot pt it : Nat} (hX : EX Δ X rl hd ot pt it)   {I : IM} {Γ : Cx} (hk : Γ.k = 12) {r : Nat} (hR : Γ.R = rmk Γ.k 1 6) (he : Γ.c.exceptionTable.isEmpty = true) (hT : TgT Δ Γ (exN r) (I, X))   (h : tEng_journal_b_38 hd I   = some r) : GG Δ m_Eng_journal Γ NN 0 0 (I, X) 38 [none, none, none] [] := by
  unfold tEng_journal_b_38 at h
  cases h
  exact g_throwD (pc := 38) (dd d_Eng_journal 18 rfl) (dd d_Eng_journal 19 rfl) (dd d_Eng_journal 20 rfl) (dd d_Eng_journal 21 rfl) (dd d_Eng_journal 22 rfl) tx_77 th_234 hT he (by omega) hR
def t_Eng_journal (hd : Nat) (x1 : Int32) (x2 : Int32) (I : IM) : Option (Nat) := if x1 < 0 then (tEng_journal_b_18 hd I  ) else (if x1 < (I (hd + 17) 0 : Int32) then (if x2 < 0 then (tEng_journal_b_38 hd I  ) else (if x2 < (6 : Int32) then (Option.bind (f_Rng_cell  (hd + 17) (((I (hd + 17) 0) - 1) - x1) x2 I) fun v5 => none) else (tEng_journal_b_38 hd I  ))) else (tEng_journal_b_18 hd I  ))
set_option maxRecDepth 20000 in
set_option maxHeartbeats 4000000 in
theorem et_Eng_journal {Δ : Dx} {X : Lx} {rl hd ot pt it : Nat} (hX : EX Δ X rl hd ot pt it) {x1 : Int32} {x2 : Int32}  {I : IM}  {r : Nat} (h : t_Eng_journal hd x1 x2 I = some r) : EvT Δ 12 m_Eng_journal [.ref (Δ.ba + 0), .int x1, .int x2] (I, X) (exN r) := by
  refine evT_of (by decide) (Nat.le_of_ble_eq_true rfl) (fun Γ hk hR hT he => ?_)
  replace hR : Γ.R = rmk Γ.k 1 6 := by rw [hk]; exact hR
  change GG Δ m_Eng_journal Γ NN 0 0 (I, X) 0 [some (.ref (Δ.ba + 0)), some (.int (x1)), some (.int (x2))] []
  unfold t_Eng_journal at h
  refine g_iload_n (pc := 0) (dd d_Eng_journal 0 rfl) rfl ?_
  refine g_iflt (pc := 1) (tgt := 18) (dd d_Eng_journal 1 rfl) (by decide) (fun q1 => ?_) (fun q1 => ?_)
  · replace h := ite_t h q1
    refine g_drop [0, 1, 2] ?_
    exact hb_Eng_journal_18 hX hk hR he hT  h
  · replace h := ite_f h q1
    refine g_iload_n (pc := 4) (dd d_Eng_journal 2 rfl) rfl ?_
    refine g_aload_n (pc := 5) (dd d_Eng_journal 3 rfl) rfl ?_
    refine g_getr (pc := 6) (dd d_Eng_journal 4 rfl) f_Eng_66 oc_Eng rfl hX.r_hd ?_
    refine g_getr (pc := 9) (dd d_Eng_journal 5 rfl) f_Eng_188 (oc_Mch hX.i_hd) rfl (rx_Mch_18 hX hX.i_hd) ?_
    refine g_geti (pc := 12) (dd d_Eng_journal 6 rfl) f_Eng_183 (oc_Rng (ir_18 hX.i_hd)) rfl ?_
    refine g_icmplt (pc := 15) (tgt := 28) (dd d_Eng_journal 7 rfl) (by decide) (fun q2 => ?_) (fun q2 => ?_)
    · replace h := ite_t h q2
      refine g_iload_n (pc := 28) (dd d_Eng_journal 13 rfl) rfl ?_
      refine g_iflt (pc := 29) (tgt := 38) (dd d_Eng_journal 14 rfl) (by decide) (fun q3 => ?_) (fun q3 => ?_)
      · replace h := ite_t h q3
        refine g_drop [0, 1, 2] ?_
        exact hb_Eng_journal_38 hX hk hR he hT  h
      · replace h := ite_f h q3
        refine g_iload_n (pc := 32) (dd d_Eng_journal 15 rfl) rfl ?_
        refine g_bipush (pc := 33) (v := 6) (dd d_Eng_journal 16 rfl) (by decide) ?_
        refine g_icmplt (pc := 35) (tgt := 48) (dd d_Eng_journal 17 rfl) (by decide) (fun q4 => ?_) (fun q4 => ?_)
        · replace h := ite_t h q4
          refine g_aload_n (pc := 48) (dd d_Eng_journal 23 rfl) rfl ?_
          refine g_getr (pc := 49) (dd d_Eng_journal 24 rfl) f_Eng_66 oc_Eng rfl hX.r_hd ?_
          refine g_getr (pc := 52) (dd d_Eng_journal 25 rfl) f_Eng_188 (oc_Mch hX.i_hd) rfl (rx_Mch_18 hX hX.i_hd) ?_
          refine g_aload_n (pc := 55) (dd d_Eng_journal 26 rfl) rfl ?_
          refine g_getr (pc := 56) (dd d_Eng_journal 27 rfl) f_Eng_66 oc_Eng rfl hX.r_hd ?_
          refine g_getr (pc := 59) (dd d_Eng_journal 28 rfl) f_Eng_188 (oc_Mch hX.i_hd) rfl (rx_Mch_18 hX hX.i_hd) ?_
          refine g_geti (pc := 62) (dd d_Eng_journal 29 rfl) f_Eng_183 (oc_Rng (ir_18 hX.i_hd)) rfl ?_
          refine g_iconst (pc := 65) (v := 1) (dd d_Eng_journal 30 rfl) (by decide) ?_
          refine g_isub (pc := 66) (dd d_Eng_journal 31 rfl) ?_
          refine g_iload_n (pc := 67) (dd d_Eng_journal 32 rfl) rfl ?_
          refine g_isub (pc := 68) (dd d_Eng_journal 33 rfl) ?_
          refine g_iload_n (pc := 69) (dd d_Eng_journal 34 rfl) rfl ?_
          obtain ⟨v5, e6, h⟩ := bnd_e h
          refine g_callV (pc := 70) (dd d_Eng_journal 35 rfl) v_Eng_236 (oc_Rng (ir_18 hX.i_hd)) rfl (ef_Rng_cell hX (ir_18 hX.i_hd) e6) rfl (by omega) (Nat.le_of_ble_eq_true rfl) ⟨Nat.zero_le _, Nat.zero_le _⟩ rfl ?_
          cases h
        · replace h := ite_f h q4
          refine g_drop [0, 1, 2] ?_
          exact hb_Eng_journal_38 hX hk hR he hT  h
    · replace h := ite_f h q2
      refine g_drop [0, 1, 2] ?_
      exact hb_Eng_journal_18 hX hk hR he hT  h
def tEng_count_b_19 (hd : Nat) (I : IM)   : Option (Nat) := some 1
set_option maxRecDepth 20000 in
set_option maxHeartbeats 4000000 in
theorem hb_Eng_count_19 {Δ : Dx} {X : Lx} {rl hd ot pt it : Nat} (hX : EX Δ X rl hd ot pt it)   {I : IM} {Γ : Cx} (hk : Γ.k = 12) {r : Nat} (hR : Γ.R = rmk Γ.k 1 6) (he : Γ.c.exceptionTable.isEmpty = true) (hT : TgT Δ Γ (exN r) (I, X))   (h : tEng_count_b_19 hd I   = some r) : GG Δ m_Eng_count Γ NN 0 0 (I, X) 19 [none, none, none] [] := by
  unfold tEng_count_b_19 at h
  cases h
  exact g_throwD (pc := 19) (dd d_Eng_count 10 rfl) (dd d_Eng_count 11 rfl) (dd d_Eng_count 12 rfl) (dd d_Eng_count 13 rfl) (dd d_Eng_count 14 rfl) tx_77 th_240 hT he (by omega) hR
def t_Eng_count (hd : Nat) (x1 : Int32) (x2 : Int32) (I : IM) : Option (Nat) := if x1 < 0 then (tEng_count_b_19 hd I  ) else (if (22 : Int32) ≤ x1 then (tEng_count_b_19 hd I  ) else (if x2 < 0 then (tEng_count_b_19 hd I  ) else (if x2 < (4 : Int32) then (chk (inb ((x1 * 4) + x2) 88) <| none) else (tEng_count_b_19 hd I  ))))
set_option maxRecDepth 20000 in
set_option maxHeartbeats 4000000 in
theorem et_Eng_count {Δ : Dx} {X : Lx} {rl hd ot pt it : Nat} (hX : EX Δ X rl hd ot pt it) {x1 : Int32} {x2 : Int32}  {I : IM}  {r : Nat} (h : t_Eng_count hd x1 x2 I = some r) : EvT Δ 12 m_Eng_count [.ref (Δ.ba + 0), .int x1, .int x2] (I, X) (exN r) := by
  refine evT_of (by decide) (Nat.le_of_ble_eq_true rfl) (fun Γ hk hR hT he => ?_)
  replace hR : Γ.R = rmk Γ.k 1 6 := by rw [hk]; exact hR
  change GG Δ m_Eng_count Γ NN 0 0 (I, X) 0 [some (.ref (Δ.ba + 0)), some (.int (x1)), some (.int (x2))] []
  unfold t_Eng_count at h
  refine g_iload_n (pc := 0) (dd d_Eng_count 0 rfl) rfl ?_
  refine g_iflt (pc := 1) (tgt := 19) (dd d_Eng_count 1 rfl) (by decide) (fun q1 => ?_) (fun q1 => ?_)
  · replace h := ite_t h q1
    refine g_drop [0, 1, 2] ?_
    exact hb_Eng_count_19 hX hk hR he hT  h
  · replace h := ite_f h q1
    refine g_iload_n (pc := 4) (dd d_Eng_count 2 rfl) rfl ?_
    refine g_bipush (pc := 5) (v := 22) (dd d_Eng_count 3 rfl) (by decide) ?_
    refine g_icmpge (pc := 7) (tgt := 19) (dd d_Eng_count 4 rfl) (by decide) (fun q2 => ?_) (fun q2 => ?_)
    · replace h := ite_t h q2
      refine g_drop [0, 1, 2] ?_
      exact hb_Eng_count_19 hX hk hR he hT  h
    · replace h := ite_f h q2
      refine g_iload_n (pc := 10) (dd d_Eng_count 5 rfl) rfl ?_
      refine g_iflt (pc := 11) (tgt := 19) (dd d_Eng_count 6 rfl) (by decide) (fun q3 => ?_) (fun q3 => ?_)
      · replace h := ite_t h q3
        refine g_drop [0, 1, 2] ?_
        exact hb_Eng_count_19 hX hk hR he hT  h
      · replace h := ite_f h q3
        refine g_iload_n (pc := 14) (dd d_Eng_count 7 rfl) rfl ?_
        refine g_iconst (pc := 15) (v := 4) (dd d_Eng_count 8 rfl) (by decide) ?_
        refine g_icmplt (pc := 16) (tgt := 29) (dd d_Eng_count 9 rfl) (by decide) (fun q4 => ?_) (fun q4 => ?_)
        · replace h := ite_t h q4
          refine g_aload_n (pc := 29) (dd d_Eng_count 15 rfl) rfl ?_
          refine g_getr (pc := 30) (dd d_Eng_count 16 rfl) f_Eng_66 oc_Eng rfl hX.r_hd ?_
          refine g_getr (pc := 33) (dd d_Eng_count 17 rfl) f_Eng_242 (oc_Mch hX.i_hd) rfl (rx_Mch_16 hX hX.i_hd) ?_
          refine g_iload_n (pc := 36) (dd d_Eng_count 18 rfl) rfl ?_
          refine g_iconst (pc := 37) (v := 4) (dd d_Eng_count 19 rfl) (by decide) ?_
          refine g_imul (pc := 38) (dd d_Eng_count 20 rfl) ?_
          refine g_iload_n (pc := 39) (dd d_Eng_count 21 rfl) rfl ?_
          refine g_iadd (pc := 40) (dd d_Eng_count 22 rfl) ?_
          obtain ⟨c5, h⟩ := chk_e h
          refine g_iald (pc := 41) (dd d_Eng_count 23 rfl) (ax_Mch_16 hX.i_hd) c5 ?_
          cases h
        · replace h := ite_f h q4
          refine g_drop [0, 1, 2] ?_
          exact hb_Eng_count_19 hX hk hR he hT  h
def tEng_cacheOf_b_18 (hd : Nat) (I : IM)   : Option (Nat) := some 3
set_option maxRecDepth 20000 in
set_option maxHeartbeats 4000000 in
theorem hb_Eng_cacheOf_18 {Δ : Dx} {X : Lx} {rl hd ot pt it : Nat} (hX : EX Δ X rl hd ot pt it)   {I : IM} {Γ : Cx} (hk : Γ.k = 12) {r : Nat} (hR : Γ.R = rmk Γ.k 1 6) (he : Γ.c.exceptionTable.isEmpty = true) (hT : TgT Δ Γ (exN r) (I, X))   (h : tEng_cacheOf_b_18 hd I   = some r) : GG Δ m_Eng_cacheOf Γ NN 0 0 (I, X) 18 [none, none, none] [] := by
  unfold tEng_cacheOf_b_18 at h
  cases h
  exact g_throwD (pc := 18) (dd d_Eng_cacheOf 8 rfl) (dd d_Eng_cacheOf 9 rfl) (dd d_Eng_cacheOf 10 rfl) (dd d_Eng_cacheOf 11 rfl) (dd d_Eng_cacheOf 12 rfl) tx_114 th_245 hT he (by omega) hR
def tEng_cacheOf_b_49 (hd : Nat) (I : IM)   : Option (Nat) := some 1
set_option maxRecDepth 20000 in
set_option maxHeartbeats 4000000 in
theorem hb_Eng_cacheOf_49 {Δ : Dx} {X : Lx} {rl hd ot pt it : Nat} (hX : EX Δ X rl hd ot pt it)   {I : IM} {Γ : Cx} (hk : Γ.k = 12) {r : Nat} (hR : Γ.R = rmk Γ.k 1 6) (he : Γ.c.exceptionTable.isEmpty = true) (hT : TgT Δ Γ (exN r) (I, X))   (h : tEng_cacheOf_b_49 hd I   = some r) : GG Δ m_Eng_cacheOf Γ NN 0 0 (I, X) 49 [none, none, none] [] := by
  unfold tEng_cacheOf_b_49 at h
  cases h
  exact g_throwD (pc := 49) (dd d_Eng_cacheOf 24 rfl) (dd d_Eng_cacheOf 25 rfl) (dd d_Eng_cacheOf 26 rfl) (dd d_Eng_cacheOf 27 rfl) (dd d_Eng_cacheOf 28 rfl) tx_77 th_247 hT he (by omega) hR
def tEng_cacheOf_b_43 (hd : Nat) (I : IM)  (x1 : Int32) (x2 : Int32) : Option (Nat) := if x2 < (25 : Int32) then (Option.bind (f_Rng_cell  (hd + 15) x1 x2 I) fun v7 => none) else (tEng_cacheOf_b_49 hd I  )
set_option maxRecDepth 20000 in
set_option maxHeartbeats 4000000 in
theorem hb_Eng_cacheOf_43 {Δ : Dx} {X : Lx} {rl hd ot pt it : Nat} (hX : EX Δ X rl hd ot pt it)   {I : IM} {Γ : Cx} (hk : Γ.k = 12) {r : Nat} (hR : Γ.R = rmk Γ.k 1 6) (he : Γ.c.exceptionTable.isEmpty = true) (hT : TgT Δ Γ (exN r) (I, X))  {x1 : Int32} {x2 : Int32} (h : tEng_cacheOf_b_43 hd I  x1 x2 = some r) : GG Δ m_Eng_cacheOf Γ NN 0 0 (I, X) 43 [some (.ref (Δ.ba + 0)), some (.int (x1)), some (.int (x2))] [] := by
  unfold tEng_cacheOf_b_43 at h
  refine g_iload_n (pc := 43) (dd d_Eng_cacheOf 21 rfl) rfl ?_
  refine g_bipush (pc := 44) (v := 25) (dd d_Eng_cacheOf 22 rfl) (by decide) ?_
  refine g_icmplt (pc := 46) (tgt := 59) (dd d_Eng_cacheOf 23 rfl) (by decide) (fun q6 => ?_) (fun q6 => ?_)
  · replace h := ite_t h q6
    refine g_aload_n (pc := 59) (dd d_Eng_cacheOf 29 rfl) rfl ?_
    refine g_getr (pc := 60) (dd d_Eng_cacheOf 30 rfl) f_Eng_66 oc_Eng rfl hX.r_hd ?_
    refine g_getr (pc := 63) (dd d_Eng_cacheOf 31 rfl) f_Eng_179 (oc_Mch hX.i_hd) rfl (rx_Mch_17 hX hX.i_hd) ?_
    refine g_iload_n (pc := 66) (dd d_Eng_cacheOf 32 rfl) rfl ?_
    refine g_iload_n (pc := 67) (dd d_Eng_cacheOf 33 rfl) rfl ?_
    obtain ⟨v7, e8, h⟩ := bnd_e h
    refine g_callV (pc := 68) (dd d_Eng_cacheOf 34 rfl) v_Eng_236 (oc_Rng (ir_17 hX.i_hd)) rfl (ef_Rng_cell hX (ir_17 hX.i_hd) e8) rfl (by omega) (Nat.le_of_ble_eq_true rfl) ⟨Nat.zero_le _, Nat.zero_le _⟩ rfl ?_
    cases h
  · replace h := ite_f h q6
    refine g_drop [0, 1, 2] ?_
    exact hb_Eng_cacheOf_49 hX hk hR he hT  h
def t_Eng_cacheOf (hd : Nat) (x1 : Int32) (x2 : Int32) (I : IM) : Option (Nat) := if x1 < 0 then (tEng_cacheOf_b_18 hd I  ) else (if x1 < (I (hd + 15) 0 : Int32) then (if x2 < 0 then (tEng_cacheOf_b_49 hd I  ) else (if x2 ≤ (4 : Int32) then (tEng_cacheOf_b_43 hd I  x1 x2) else (if x2 < (10 : Int32) then (tEng_cacheOf_b_49 hd I  ) else (tEng_cacheOf_b_43 hd I  x1 x2)))) else (tEng_cacheOf_b_18 hd I  ))
set_option maxRecDepth 20000 in
set_option maxHeartbeats 4000000 in
theorem et_Eng_cacheOf {Δ : Dx} {X : Lx} {rl hd ot pt it : Nat} (hX : EX Δ X rl hd ot pt it) {x1 : Int32} {x2 : Int32}  {I : IM}  {r : Nat} (h : t_Eng_cacheOf hd x1 x2 I = some r) : EvT Δ 12 m_Eng_cacheOf [.ref (Δ.ba + 0), .int x1, .int x2] (I, X) (exN r) := by
  refine evT_of (by decide) (Nat.le_of_ble_eq_true rfl) (fun Γ hk hR hT he => ?_)
  replace hR : Γ.R = rmk Γ.k 1 6 := by rw [hk]; exact hR
  change GG Δ m_Eng_cacheOf Γ NN 0 0 (I, X) 0 [some (.ref (Δ.ba + 0)), some (.int (x1)), some (.int (x2))] []
  unfold t_Eng_cacheOf at h
  refine g_iload_n (pc := 0) (dd d_Eng_cacheOf 0 rfl) rfl ?_
  refine g_iflt (pc := 1) (tgt := 18) (dd d_Eng_cacheOf 1 rfl) (by decide) (fun q1 => ?_) (fun q1 => ?_)
  · replace h := ite_t h q1
    refine g_drop [0, 1, 2] ?_
    exact hb_Eng_cacheOf_18 hX hk hR he hT  h
  · replace h := ite_f h q1
    refine g_iload_n (pc := 4) (dd d_Eng_cacheOf 2 rfl) rfl ?_
    refine g_aload_n (pc := 5) (dd d_Eng_cacheOf 3 rfl) rfl ?_
    refine g_getr (pc := 6) (dd d_Eng_cacheOf 4 rfl) f_Eng_66 oc_Eng rfl hX.r_hd ?_
    refine g_getr (pc := 9) (dd d_Eng_cacheOf 5 rfl) f_Eng_179 (oc_Mch hX.i_hd) rfl (rx_Mch_17 hX hX.i_hd) ?_
    refine g_geti (pc := 12) (dd d_Eng_cacheOf 6 rfl) f_Eng_183 (oc_Rng (ir_17 hX.i_hd)) rfl ?_
    refine g_icmplt (pc := 15) (tgt := 28) (dd d_Eng_cacheOf 7 rfl) (by decide) (fun q2 => ?_) (fun q2 => ?_)
    · replace h := ite_t h q2
      refine g_iload_n (pc := 28) (dd d_Eng_cacheOf 13 rfl) rfl ?_
      refine g_iflt (pc := 29) (tgt := 49) (dd d_Eng_cacheOf 14 rfl) (by decide) (fun q3 => ?_) (fun q3 => ?_)
      · replace h := ite_t h q3
        refine g_drop [0, 1, 2] ?_
        exact hb_Eng_cacheOf_49 hX hk hR he hT  h
      · replace h := ite_f h q3
        refine g_iload_n (pc := 32) (dd d_Eng_cacheOf 15 rfl) rfl ?_
        refine g_iconst (pc := 33) (v := 4) (dd d_Eng_cacheOf 16 rfl) (by decide) ?_
        refine g_icmple (pc := 34) (tgt := 43) (dd d_Eng_cacheOf 17 rfl) (by decide) (fun q4 => ?_) (fun q4 => ?_)
        · replace h := ite_t h q4
          exact hb_Eng_cacheOf_43 hX hk hR he hT  h
        · replace h := ite_f h q4
          refine g_iload_n (pc := 37) (dd d_Eng_cacheOf 18 rfl) rfl ?_
          refine g_bipush (pc := 38) (v := 10) (dd d_Eng_cacheOf 19 rfl) (by decide) ?_
          refine g_icmplt (pc := 40) (tgt := 49) (dd d_Eng_cacheOf 20 rfl) (by decide) (fun q5 => ?_) (fun q5 => ?_)
          · replace h := ite_t h q5
            refine g_drop [0, 1, 2] ?_
            exact hb_Eng_cacheOf_49 hX hk hR he hT  h
          · replace h := ite_f h q5
            exact hb_Eng_cacheOf_43 hX hk hR he hT  h
    · replace h := ite_f h q2
      refine g_drop [0, 1, 2] ?_
      exact hb_Eng_cacheOf_18 hX hk hR he hT  h
def tEng_differ_b_21 (n : Nat) (rl : Nat) (hd : Nat) (I : IM)   : Option (Nat) := some 1
set_option maxRecDepth 20000 in
set_option maxHeartbeats 4000000 in
theorem hb_Eng_differ_21 {Δ : Dx} {X : Lx} {rl hd ot pt it : Nat} (hX : EX Δ X rl hd ot pt it)   {n : Nat} {I : IM} {Γ : Cx} (hk : Γ.k = 12) {r : Nat} (hR : Γ.R = rmk Γ.k 1 6) (he : Γ.c.exceptionTable.isEmpty = true) (hT : TgT Δ Γ (exN r) (I, X))   (h : tEng_differ_b_21 n rl hd I   = some r) : GG Δ m_Eng_differ Γ NN 0 0 (I, X) 21 [none, none, none, none, none] [] := by
  unfold tEng_differ_b_21 at h
  cases h
  exact g_throwD (pc := 21) (dd d_Eng_differ 11 rfl) (dd d_Eng_differ 12 rfl) (dd d_Eng_differ 13 rfl) (dd d_Eng_differ 14 rfl) (dd d_Eng_differ 15 rfl) tx_77 th_253 hT he (by omega) hR
def tEng_differ_b_53 (n : Nat) (rl : Nat) (hd : Nat) (I : IM)   : Option (Nat) := some 4
set_option maxRecDepth 20000 in
set_option maxHeartbeats 4000000 in
theorem hb_Eng_differ_53 {Δ : Dx} {X : Lx} {rl hd ot pt it : Nat} (hX : EX Δ X rl hd ot pt it)   {n : Nat} {I : IM} {Γ : Cx} (hk : Γ.k = 12) {r : Nat} (hR : Γ.R = rmk Γ.k 1 6) (he : Γ.c.exceptionTable.isEmpty = true) (hT : TgT Δ Γ (exN r) (I, X))   (h : tEng_differ_b_53 n rl hd I   = some r) : GG Δ m_Eng_differ Γ NN 0 0 (I, X) 53 [none, none, none, none, none] [] := by
  unfold tEng_differ_b_53 at h
  cases h
  exact g_throwW (pc := 53) (dd d_Eng_differ 26 rfl) (dd d_Eng_differ 27 rfl) (dd d_Eng_differ 28 rfl) (dd d_Eng_differ 29 rfl) (dd d_Eng_differ 30 rfl) tx_168 th_258 hT he (by omega) hR
def t_Eng_differ (n : Nat) (rl : Nat) (hd : Nat) (x1 : Int32) (x2 : Int32) (I : IM) : Option (Nat) := if x1 < 0 then (tEng_differ_b_21 n rl hd I  ) else (if (22 : Int32) ≤ x1 then (tEng_differ_b_21 n rl hd I  ) else (if x2 < (1 : Int32) then (tEng_differ_b_21 n rl hd I  ) else (if x2 ≤ (7 : Int32) then (Option.bind (f_Pol_mayBeCompared  rl x1 I) fun v5 => if v5 = 0 then (tEng_differ_b_53 n rl hd I  ) else (Option.bind (f_Pol_mayBeCompared  48 x1 I) fun v8 => if v8 = 0 then (tEng_differ_b_53 n rl hd I  ) else (Option.bind (f_Cmp_variedNames  rl 48 x1 I) fun v11 => Option.bind (f_Cmp_casesOf n v11 x2 I) fun v13 => if v13 ≤ (4096 : Int32) then (none) else (some 2)))) else (tEng_differ_b_21 n rl hd I  ))))
set_option maxRecDepth 20000 in
set_option maxHeartbeats 4000000 in
theorem et_Eng_differ {Δ : Dx} {X : Lx} {rl hd ot pt it : Nat} (hX : EX Δ X rl hd ot pt it) {n : Nat} {x1 : Int32} {x2 : Int32}  {I : IM}  {r : Nat} (h : t_Eng_differ n rl hd x1 x2 I = some r) : EvT Δ 12 m_Eng_differ [.ref (Δ.ba + 0), .int x1, .int x2] (I, X) (exN r) := by
  refine evT_of (by decide) (Nat.le_of_ble_eq_true rfl) (fun Γ hk hR hT he => ?_)
  replace hR : Γ.R = rmk Γ.k 1 6 := by rw [hk]; exact hR
  change GG Δ m_Eng_differ Γ NN 0 0 (I, X) 0 [some (.ref (Δ.ba + 0)), some (.int (x1)), some (.int (x2)), none, none] []
  unfold t_Eng_differ at h
  refine g_iload_n (pc := 0) (dd d_Eng_differ 0 rfl) rfl ?_
  refine g_iflt (pc := 1) (tgt := 21) (dd d_Eng_differ 1 rfl) (by decide) (fun q1 => ?_) (fun q1 => ?_)
  · replace h := ite_t h q1
    refine g_drop [0, 1, 2] ?_
    exact hb_Eng_differ_21 hX hk hR he hT  h
  · replace h := ite_f h q1
    refine g_iload_n (pc := 4) (dd d_Eng_differ 2 rfl) rfl ?_
    refine g_bipush (pc := 5) (v := 22) (dd d_Eng_differ 3 rfl) (by decide) ?_
    refine g_icmpge (pc := 7) (tgt := 21) (dd d_Eng_differ 4 rfl) (by decide) (fun q2 => ?_) (fun q2 => ?_)
    · replace h := ite_t h q2
      refine g_drop [0, 1, 2] ?_
      exact hb_Eng_differ_21 hX hk hR he hT  h
    · replace h := ite_f h q2
      refine g_iload_n (pc := 10) (dd d_Eng_differ 5 rfl) rfl ?_
      refine g_iconst (pc := 11) (v := 1) (dd d_Eng_differ 6 rfl) (by decide) ?_
      refine g_icmplt (pc := 12) (tgt := 21) (dd d_Eng_differ 7 rfl) (by decide) (fun q3 => ?_) (fun q3 => ?_)
      · replace h := ite_t h q3
        refine g_drop [0, 1, 2] ?_
        exact hb_Eng_differ_21 hX hk hR he hT  h
      · replace h := ite_f h q3
        refine g_iload_n (pc := 15) (dd d_Eng_differ 8 rfl) rfl ?_
        refine g_bipush (pc := 16) (v := 7) (dd d_Eng_differ 9 rfl) (by decide) ?_
        refine g_icmple (pc := 18) (tgt := 31) (dd d_Eng_differ 10 rfl) (by decide) (fun q4 => ?_) (fun q4 => ?_)
        · replace h := ite_t h q4
          refine g_aload_n (pc := 31) (dd d_Eng_differ 16 rfl) rfl ?_
          refine g_getr (pc := 32) (dd d_Eng_differ 17 rfl) f_Eng_60 oc_Eng rfl hX.r_rl ?_
          refine g_iload_n (pc := 35) (dd d_Eng_differ 18 rfl) rfl ?_
          obtain ⟨v5, e6, h⟩ := bnd_e h
          refine g_callV (pc := 36) (dd d_Eng_differ 19 rfl) v_Eng_255 (oc_Pol hX.i_rl) rfl (ef_Pol_mayBeCompared hX hX.i_rl e6) rfl (by omega) (Nat.le_of_ble_eq_true rfl) ⟨Nat.zero_le _, Nat.zero_le _⟩ rfl ?_
          refine g_ifeq (pc := 39) (tgt := 53) (dd d_Eng_differ 20 rfl) (by decide) (fun q7 => ?_) (fun q7 => ?_)
          · replace h := ite_t h q7
            refine g_drop [0, 1, 2] ?_
            exact hb_Eng_differ_53 hX hk hR he hT  h
          · replace h := ite_f h q7
            refine g_aload_n (pc := 42) (dd d_Eng_differ 21 rfl) rfl ?_
            refine g_getr (pc := 43) (dd d_Eng_differ 22 rfl) f_Eng_49 oc_Eng rfl (rx_Eng_5 hX) ?_
            refine g_iload_n (pc := 46) (dd d_Eng_differ 23 rfl) rfl ?_
            obtain ⟨v8, e9, h⟩ := bnd_e h
            refine g_callV (pc := 47) (dd d_Eng_differ 24 rfl) v_Eng_255 (oc_Pol (by decide)) rfl (ef_Pol_mayBeCompared hX (by decide) e9) rfl (by omega) (Nat.le_of_ble_eq_true rfl) ⟨Nat.zero_le _, Nat.zero_le _⟩ rfl ?_
            refine g_ifne (pc := 50) (tgt := 64) (dd d_Eng_differ 25 rfl) (by decide) (fun q10 => ?_) (fun q10 => ?_)
            · replace h := ite_f h q10
              refine g_aload_n (pc := 64) (dd d_Eng_differ 31 rfl) rfl ?_
              refine g_getr (pc := 65) (dd d_Eng_differ 32 rfl) f_Eng_60 oc_Eng rfl hX.r_rl ?_
              refine g_aload_n (pc := 68) (dd d_Eng_differ 33 rfl) rfl ?_
              refine g_getr (pc := 69) (dd d_Eng_differ 34 rfl) f_Eng_49 oc_Eng rfl (rx_Eng_5 hX) ?_
              refine g_iload_n (pc := 72) (dd d_Eng_differ 35 rfl) rfl ?_
              obtain ⟨v11, e12, h⟩ := bnd_e h
              refine g_callS (pc := 73) (dd d_Eng_differ 36 rfl) s_Eng_260 (ef_Cmp_variedNames hX hX.i_rl (by decide) e12) rfl (by omega) (Nat.le_of_ble_eq_true rfl) ⟨Nat.zero_le _, Nat.zero_le _⟩ rfl ?_
              refine g_istore_n (pc := 76) (dd d_Eng_differ 37 rfl) (by decide) ?_
              refine g_iload_n (pc := 77) (dd d_Eng_differ 38 rfl) rfl ?_
              refine g_iload_n (pc := 78) (dd d_Eng_differ 39 rfl) rfl ?_
              obtain ⟨v13, e14, h⟩ := bnd_e h
              refine g_callS (pc := 79) (dd d_Eng_differ 40 rfl) s_Eng_264 (ef_Cmp_casesOf hX e14) rfl (by omega) (Nat.le_of_ble_eq_true rfl) ⟨Nat.zero_le _, Nat.zero_le _⟩ rfl ?_
              refine g_istore (pc := 82) (dd d_Eng_differ 41 rfl) (by decide) ?_
              refine g_iload (pc := 84) (dd d_Eng_differ 42 rfl) rfl ?_
              refine g_sipush (pc := 86) (v := 4096) (dd d_Eng_differ 43 rfl) (by decide) ?_
              refine g_icmple (pc := 89) (tgt := 103) (dd d_Eng_differ 44 rfl) (by decide) (fun q15 => ?_) (fun q15 => ?_)
              · replace h := ite_t h q15
                refine g_aload_n (pc := 103) (dd d_Eng_differ 50 rfl) rfl ?_
                refine g_getr (pc := 104) (dd d_Eng_differ 51 rfl) f_Eng_42 oc_Eng rfl (rx_Eng_4 hX) ?_
                refine g_iload_n (pc := 107) (dd d_Eng_differ 52 rfl) rfl ?_
                refine g_iload_n (pc := 108) (dd d_Eng_differ 53 rfl) rfl ?_
                refine g_iload (pc := 109) (dd d_Eng_differ 54 rfl) rfl ?_
                cases h
              · replace h := ite_f h q15
                cases h
                exact g_throwW (pc := 92) (dd d_Eng_differ 45 rfl) (dd d_Eng_differ 46 rfl) (dd d_Eng_differ 47 rfl) (dd d_Eng_differ 48 rfl) (dd d_Eng_differ 49 rfl) tx_88 th_267 hT he (by omega) hR
            · replace h := ite_t h q10
              refine g_drop [0, 1, 2] ?_
              exact hb_Eng_differ_53 hX hk hR he hT  h
        · replace h := ite_f h q4
          refine g_drop [0, 1, 2] ?_
          exact hb_Eng_differ_21 hX hk hR he hT  h
def tEng_witness_b_10 (I : IM)   : Option (Nat) := some 1
set_option maxRecDepth 20000 in
set_option maxHeartbeats 4000000 in
theorem hb_Eng_witness_10 {Δ : Dx} {X : Lx} {rl hd ot pt it : Nat} (hX : EX Δ X rl hd ot pt it)   {I : IM} {Γ : Cx} (hk : Γ.k = 12) {r : Nat} (hR : Γ.R = rmk Γ.k 1 6) (he : Γ.c.exceptionTable.isEmpty = true) (hT : TgT Δ Γ (exN r) (I, X))   (h : tEng_witness_b_10 I   = some r) : GG Δ m_Eng_witness Γ NN 0 0 (I, X) 10 [none, none] [] := by
  unfold tEng_witness_b_10 at h
  cases h
  exact g_throwW (pc := 10) (dd d_Eng_witness 5 rfl) (dd d_Eng_witness 6 rfl) (dd d_Eng_witness 7 rfl) (dd d_Eng_witness 8 rfl) (dd d_Eng_witness 9 rfl) tx_77 th_276 hT he (by omega) hR
def t_Eng_witness (x1 : Int32) (I : IM) : Option (Nat) := if x1 < 0 then (tEng_witness_b_10 I  ) else (if x1 < (15 : Int32) then (if (I 40 0 : Int32) = 0 then (some 4) else (chk (inb x1 15) <| none)) else (tEng_witness_b_10 I  ))
set_option maxRecDepth 20000 in
set_option maxHeartbeats 4000000 in
theorem et_Eng_witness {Δ : Dx} {X : Lx} {rl hd ot pt it : Nat} (hX : EX Δ X rl hd ot pt it) {x1 : Int32}  {I : IM}  {r : Nat} (h : t_Eng_witness x1 I = some r) : EvT Δ 12 m_Eng_witness [.ref (Δ.ba + 0), .int x1] (I, X) (exN r) := by
  refine evT_of (by decide) (Nat.le_of_ble_eq_true rfl) (fun Γ hk hR hT he => ?_)
  replace hR : Γ.R = rmk Γ.k 1 6 := by rw [hk]; exact hR
  change GG Δ m_Eng_witness Γ NN 0 0 (I, X) 0 [some (.ref (Δ.ba + 0)), some (.int (x1))] []
  unfold t_Eng_witness at h
  refine g_iload_n (pc := 0) (dd d_Eng_witness 0 rfl) rfl ?_
  refine g_iflt (pc := 1) (tgt := 10) (dd d_Eng_witness 1 rfl) (by decide) (fun q1 => ?_) (fun q1 => ?_)
  · replace h := ite_t h q1
    refine g_drop [0, 1] ?_
    exact hb_Eng_witness_10 hX hk hR he hT  h
  · replace h := ite_f h q1
    refine g_iload_n (pc := 4) (dd d_Eng_witness 2 rfl) rfl ?_
    refine g_bipush (pc := 5) (v := 15) (dd d_Eng_witness 3 rfl) (by decide) ?_
    refine g_icmplt (pc := 7) (tgt := 21) (dd d_Eng_witness 4 rfl) (by decide) (fun q2 => ?_) (fun q2 => ?_)
    · replace h := ite_t h q2
      refine g_aload_n (pc := 21) (dd d_Eng_witness 10 rfl) rfl ?_
      refine g_getr (pc := 22) (dd d_Eng_witness 11 rfl) f_Eng_42 oc_Eng rfl (rx_Eng_4 hX) ?_
      refine g_geti (pc := 25) (dd d_Eng_witness 12 rfl) f_Eng_278 oc_Cmp rfl ?_
      refine g_ifne (pc := 28) (tgt := 42) (dd d_Eng_witness 13 rfl) (by decide) (fun q3 => ?_) (fun q3 => ?_)
      · replace h := ite_f h q3
        refine g_aload_n (pc := 42) (dd d_Eng_witness 19 rfl) rfl ?_
        refine g_getr (pc := 43) (dd d_Eng_witness 20 rfl) f_Eng_42 oc_Eng rfl (rx_Eng_4 hX) ?_
        refine g_getr (pc := 46) (dd d_Eng_witness 21 rfl) f_Eng_284 oc_Cmp rfl (rx_Cmp_1 hX) ?_
        refine g_iload_n (pc := 49) (dd d_Eng_witness 22 rfl) rfl ?_
        obtain ⟨c4, h⟩ := chk_e h
        refine g_iald (pc := 50) (dd d_Eng_witness 23 rfl) ax_Cmp_1 c4 ?_
        cases h
      · replace h := ite_t h q3
        cases h
        exact g_throwW (pc := 31) (dd d_Eng_witness 14 rfl) (dd d_Eng_witness 15 rfl) (dd d_Eng_witness 16 rfl) (dd d_Eng_witness 17 rfl) (dd d_Eng_witness 18 rfl) tx_168 th_282 hT he (by omega) hR
    · replace h := ite_f h q2
      refine g_drop [0, 1] ?_
      exact hb_Eng_witness_10 hX hk hR he hT  h
def t_Eng_unlike (n : Nat) (hd : Nat) (ot : Nat) (x1 : Int32) (I : IM) : Option (Nat) := if x1 = 0 then (Option.bind (f_Mch_unlikeCode n hd ot I) fun v2 => none) else (if x1 = 1 then (Option.bind (f_Mch_unlikeWords n hd ot I) fun v4 => none) else (if x1 = 2 then (Option.bind (f_Mch_unlikeRegisters n hd ot I) fun v6 => none) else (if x1 = 3 then (Option.bind (f_Mch_unlikeOutputs n hd ot I) fun v8 => none) else (some 1))))
set_option maxRecDepth 20000 in
set_option maxHeartbeats 4000000 in
theorem et_Eng_unlike {Δ : Dx} {X : Lx} {rl hd ot pt it : Nat} (hX : EX Δ X rl hd ot pt it) {n : Nat} {x1 : Int32}  {I : IM}  {r : Nat} (h : t_Eng_unlike n hd ot x1 I = some r) : EvT Δ 12 m_Eng_unlike [.ref (Δ.ba + 0), .int x1] (I, X) (exN r) := by
  refine evT_of (by decide) (Nat.le_of_ble_eq_true rfl) (fun Γ hk hR hT he => ?_)
  replace hR : Γ.R = rmk Γ.k 1 6 := by rw [hk]; exact hR
  change GG Δ m_Eng_unlike Γ NN 0 0 (I, X) 0 [some (.ref (Δ.ba + 0)), some (.int (x1))] []
  unfold t_Eng_unlike at h
  refine g_iload_n (pc := 0) (dd d_Eng_unlike 0 rfl) rfl ?_
  refine g_tableC (pc := 1) (dd d_Eng_unlike 1 rfl) (fun i off ho w1 => ?_) (by decide) (fun w1 => ⟨80, by decide, ?_⟩)
  · rcases i with _ | _ | _ | _ | i
    · obtain rfl : off = 31 := (Option.some.inj ho).symm
      refine ⟨32, by decide, ?_⟩
      replace w1 : x1 = 0 := Int32.toInt_inj.mp w1
      replace h := ite_t h w1
      refine g_aload_n (pc := 32) (dd d_Eng_unlike 2 rfl) rfl ?_
      refine g_getr (pc := 33) (dd d_Eng_unlike 3 rfl) f_Eng_66 oc_Eng rfl hX.r_hd ?_
      refine g_aload_n (pc := 36) (dd d_Eng_unlike 4 rfl) rfl ?_
      refine g_getr (pc := 37) (dd d_Eng_unlike 5 rfl) f_Eng_70 oc_Eng rfl hX.r_ot ?_
      obtain ⟨v2, e3, h⟩ := bnd_e h
      refine g_callV (pc := 40) (dd d_Eng_unlike 6 rfl) v_Eng_290 (oc_Mch hX.i_hd) rfl (ef_Mch_unlikeCode hX hX.i_hd hX.i_ot e3) rfl (by omega) (Nat.le_of_ble_eq_true rfl) ⟨Nat.zero_le _, Nat.zero_le _⟩ rfl ?_
      cases h
    · obtain rfl : off = 43 := (Option.some.inj ho).symm
      refine ⟨44, by decide, ?_⟩
      replace w1 : x1 = 1 := Int32.toInt_inj.mp w1
      replace h := ite_f h (by rw [w1]; decide)
      replace h := ite_t h w1
      refine g_aload_n (pc := 44) (dd d_Eng_unlike 8 rfl) rfl ?_
      refine g_getr (pc := 45) (dd d_Eng_unlike 9 rfl) f_Eng_66 oc_Eng rfl hX.r_hd ?_
      refine g_aload_n (pc := 48) (dd d_Eng_unlike 10 rfl) rfl ?_
      refine g_getr (pc := 49) (dd d_Eng_unlike 11 rfl) f_Eng_70 oc_Eng rfl hX.r_ot ?_
      obtain ⟨v4, e5, h⟩ := bnd_e h
      refine g_callV (pc := 52) (dd d_Eng_unlike 12 rfl) v_Eng_294 (oc_Mch hX.i_hd) rfl (ef_Mch_unlikeWords hX hX.i_hd hX.i_ot e5) rfl (by omega) (Nat.le_of_ble_eq_true rfl) ⟨Nat.zero_le _, Nat.zero_le _⟩ rfl ?_
      cases h
    · obtain rfl : off = 55 := (Option.some.inj ho).symm
      refine ⟨56, by decide, ?_⟩
      replace w1 : x1 = 2 := Int32.toInt_inj.mp w1
      replace h := ite_f h (by rw [w1]; decide)
      replace h := ite_f h (by rw [w1]; decide)
      replace h := ite_t h w1
      refine g_aload_n (pc := 56) (dd d_Eng_unlike 14 rfl) rfl ?_
      refine g_getr (pc := 57) (dd d_Eng_unlike 15 rfl) f_Eng_66 oc_Eng rfl hX.r_hd ?_
      refine g_aload_n (pc := 60) (dd d_Eng_unlike 16 rfl) rfl ?_
      refine g_getr (pc := 61) (dd d_Eng_unlike 17 rfl) f_Eng_70 oc_Eng rfl hX.r_ot ?_
      obtain ⟨v6, e7, h⟩ := bnd_e h
      refine g_callV (pc := 64) (dd d_Eng_unlike 18 rfl) v_Eng_297 (oc_Mch hX.i_hd) rfl (ef_Mch_unlikeRegisters hX hX.i_hd hX.i_ot e7) rfl (by omega) (Nat.le_of_ble_eq_true rfl) ⟨Nat.zero_le _, Nat.zero_le _⟩ rfl ?_
      cases h
    · obtain rfl : off = 67 := (Option.some.inj ho).symm
      refine ⟨68, by decide, ?_⟩
      replace w1 : x1 = 3 := Int32.toInt_inj.mp w1
      replace h := ite_f h (by rw [w1]; decide)
      replace h := ite_f h (by rw [w1]; decide)
      replace h := ite_f h (by rw [w1]; decide)
      replace h := ite_t h w1
      refine g_aload_n (pc := 68) (dd d_Eng_unlike 20 rfl) rfl ?_
      refine g_getr (pc := 69) (dd d_Eng_unlike 21 rfl) f_Eng_66 oc_Eng rfl hX.r_hd ?_
      refine g_aload_n (pc := 72) (dd d_Eng_unlike 22 rfl) rfl ?_
      refine g_getr (pc := 73) (dd d_Eng_unlike 23 rfl) f_Eng_70 oc_Eng rfl hX.r_ot ?_
      obtain ⟨v8, e9, h⟩ := bnd_e h
      refine g_callV (pc := 76) (dd d_Eng_unlike 24 rfl) v_Eng_300 (oc_Mch hX.i_hd) rfl (ef_Mch_unlikeOutputs hX hX.i_hd hX.i_ot e9) rfl (by omega) (Nat.le_of_ble_eq_true rfl) ⟨Nat.zero_le _, Nat.zero_le _⟩ rfl ?_
      cases h
    · cases ho
  · skip
    replace w1 : x1.toInt < 0 ∨ 3 < x1.toInt := w1
    replace h := ite_f h (fun e => by rw [e] at w1; revert w1; decide)
    replace h := ite_f h (fun e => by rw [e] at w1; revert w1; decide)
    replace h := ite_f h (fun e => by rw [e] at w1; revert w1; decide)
    replace h := ite_f h (fun e => by rw [e] at w1; revert w1; decide)
    cases h
    exact g_throwW (pc := 80) (dd d_Eng_unlike 26 rfl) (dd d_Eng_unlike 27 rfl) (dd d_Eng_unlike 28 rfl) (dd d_Eng_unlike 29 rfl) (dd d_Eng_unlike 30 rfl) tx_77 th_303 hT he (by omega) hR
