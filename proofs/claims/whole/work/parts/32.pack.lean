/-! the known words, packed -/
def pk (a : Nat) : List Int32 → St → Nat → Int64 → St × Nat
  | [], σ, k, _ => (σ, k)
  | b :: bs, σ, k, p => if ch8 b = 32 then pk a bs (stJ σ a k p) (k + 1) 0 else pk a bs σ k (p * 32 + (ch8 b - 97 + 1).toInt64)
def okp : List Int32 → Nat → Bool
  | [], _ => true
  | b :: bs, k => decide (k < 50) && okp bs (if ch8 b = 32 then k + 1 else k)
theorem ev_Rdr_letterNumber {Δ : Dx} {n : Nat} {σ : St} (x : Int32) : EvN Δ 0 m_Rdr_letterNumber n [.int x] σ (some (.int (x - 97 + 1))) n σ 0 0 := by
  refine ev_of (by decide) (Nat.le_of_ble_eq_true rfl) (fun Γ hk hR hT => ?_)
  refine g_iload_n (pc := 0) (dd d_Rdr_letterNumber 0 rfl) rfl ?_
  refine g_bipush (pc := 1) (v := 97) (dd d_Rdr_letterNumber 1 rfl) (by decide) ?_
  refine g_isub (pc := 3) (dd d_Rdr_letterNumber 2 rfl) ?_
  refine g_iconst (pc := 4) (v := 1) (dd d_Rdr_letterNumber 3 rfl) (by decide) ?_
  refine g_iadd (pc := 5) (dd d_Rdr_letterNumber 4 rfl) ?_
  exact g_iret (pc := 6) rfl (dd d_Rdr_letterNumber 5 rfl) hT
theorem drop_cons {α : Type} {l m : List α} {b : α} {k : Nat} (h : l.drop k = b :: m) : k < l.length ∧ l[k]? = some b ∧ l.drop (k + 1) = m := by
  have hk : k < l.length := by
    have := congrArg List.length h
    rw [List.length_drop, List.length_cons] at this
    omega
  refine ⟨hk, ?_, ?_⟩
  · have : (l.drop k)[0]? = some b := by rw [h]; rfl
    rw [List.getElem?_drop] at this
    exact this
  · have : (l.drop k).drop 1 = m := by rw [h]; rfl
    rw [List.drop_drop] at this
    exact this
set_option maxHeartbeats 4000000 in
theorem ev_Rdr_packWords {Δ : Dx} {n a s f : Nat} {σ : St} {bs : List Int32} (hg : Sg Δ s bs) (ho : Ar n a .long 50) (hok : okp bs f = true) (hf : f ≤ 50) : EvN Δ 4 m_Rdr_packWords n [.ref s, .ref (Δ.ba + a), .int (nI f)] σ (some (.int (nI (pk a bs σ f 0).2))) n (pk a bs σ f 0).1 0 0 := by
  refine ev_of (by decide) (Nat.le_of_ble_eq_true rfl) (fun Γ hk hR hT => ?_)
  refine g_iload_n (pc := 0) (dd d_Rdr_packWords 0 rfl) rfl ?_
  refine g_istore_n (pc := 1) (dd d_Rdr_packWords 1 rfl) (by decide) ?_
  refine g_lconst (pc := 2) (v := 0) (dd d_Rdr_packWords 2 rfl) (by decide) ?_
  refine g_lstore (pc := 3) (dd d_Rdr_packWords 3 rfl) (by decide) ?_
  refine g_iconst (pc := 5) (v := 0) (dd d_Rdr_packWords 4 rfl) (by decide) ?_
  refine g_istore (pc := 6) (dd d_Rdr_packWords 5 rfl) (by decide) ?_
  have hl := hg.1
  have main : ∀ (l : List Int32) (i k : Nat) (σ : St) (p : Int64), bs.drop i = l → i ≤ bs.length → okp l k = true → k ≤ 50 → Tg Δ Γ (some (.int (nI (pk a l σ k p).2))) n (pk a l σ k p).1 0 0 →
      GG Δ m_Rdr_packWords Γ n 0 0 σ 8 [some (.ref s), some (.ref (Δ.ba + a)), some (.int (nI f)), some (.int (nI k)), some (.long p), none, some (.int (nI i)), none] [] := by
    intro l
    induction l with
    | nil =>
      intro i k σ p hd hi hok hk50 hT
      have hil : bs.length ≤ i := List.drop_eq_nil_iff.mp hd
      refine g_iload (pc := 8) (dd d_Rdr_packWords 6 rfl) rfl ?_
      refine g_aload_n (pc := 10) (dd d_Rdr_packWords 7 rfl) rfl ?_
      refine g_callStr (pc := 11) (dd d_Rdr_packWords 8 rfl) v_Rdr_98 hg (ev_Str_length hg) rfl (by rw [hk]; decide) (Nat.le_of_ble_eq_true rfl) ⟨Nat.zero_le _, Nat.zero_le _⟩ rfl ?_
      refine g_icmpge (pc := 14) (tgt := 77) (dd d_Rdr_packWords 9 rfl) (by decide) (fun _ => ?_) (fun q => absurd (nI_le hil (by omega)) q)
      refine g_iload_n (pc := 77) (dd d_Rdr_packWords 41 rfl) rfl ?_
      exact g_iret (pc := 78) rfl (dd d_Rdr_packWords 42 rfl) hT
    | cons b l ih =>
      intro i k σ p hd hi hok hk50 hT
      obtain ⟨h1, h2, h3⟩ := drop_cons hd
      have hok' : k < 50 ∧ okp l (if ch8 b = 32 then k + 1 else k) = true := by
        have : (decide (k < 50) && okp l (if ch8 b = 32 then k + 1 else k)) = true := hok
        rw [Bool.and_eq_true, decide_eq_true_eq] at this
        exact this
      obtain ⟨hk5, hok2⟩ := hok'
      have hb : bs.getD i 0 = b := by rw [List.getD_eq_getElem?_getD, h2]; rfl
      refine g_iload (pc := 8) (dd d_Rdr_packWords 6 rfl) rfl ?_
      refine g_aload_n (pc := 10) (dd d_Rdr_packWords 7 rfl) rfl ?_
      refine g_callStr (pc := 11) (dd d_Rdr_packWords 8 rfl) v_Rdr_98 hg (ev_Str_length hg) rfl (by rw [hk]; decide) (Nat.le_of_ble_eq_true rfl) ⟨Nat.zero_le _, Nat.zero_le _⟩ rfl ?_
      refine g_icmpge (pc := 14) (tgt := 77) (dd d_Rdr_packWords 9 rfl) (by decide) (fun q => absurd q (nI_ge h1 hl)) (fun _ => ?_)
      refine g_iload_n (pc := 17) (dd d_Rdr_packWords 10 rfl) rfl ?_
      refine g_iflt (pc := 18) (tgt := 77) (dd d_Rdr_packWords 11 rfl) (by decide) (fun q => absurd q (nI_pos (by omega))) (fun _ => ?_)
      refine g_iload_n (pc := 21) (dd d_Rdr_packWords 12 rfl) rfl ?_
      refine g_aload_n (pc := 22) (dd d_Rdr_packWords 13 rfl) rfl ?_
      refine g_alen (pc := 23) (t := 1) (v := nI 50) (dd d_Rdr_packWords 14 rfl) ho rfl rfl ?_
      refine g_icmpge (pc := 24) (tgt := 77) (dd d_Rdr_packWords 15 rfl) (by decide) (fun q => absurd q (nI_ge hk5 (by decide))) (fun _ => ?_)
      refine g_aload_n (pc := 27) (dd d_Rdr_packWords 16 rfl) rfl ?_
      refine g_iload (pc := 28) (dd d_Rdr_packWords 17 rfl) rfl ?_
      refine g_callStr (pc := 30) (dd d_Rdr_packWords 18 rfl) v_Rdr_100 hg (ev_Str_charAt hg h1) rfl (by rw [hk]; decide) (Nat.le_of_ble_eq_true rfl) ⟨Nat.zero_le _, Nat.zero_le _⟩ rfl ?_
      rw [hb]
      refine g_istore (pc := 33) (dd d_Rdr_packWords 19 rfl) (by decide) ?_
      refine g_iload (pc := 35) (dd d_Rdr_packWords 20 rfl) rfl ?_
      refine g_bipush (pc := 37) (v := 32) (dd d_Rdr_packWords 21 rfl) (by decide) ?_
      refine g_icmpne (pc := 39) (tgt := 56) (dd d_Rdr_packWords 22 rfl) (by decide) (fun q => ?_) (fun q => ?_)
      · refine g_lload (pc := 56) (dd d_Rdr_packWords 31 rfl) rfl ?_
        refine g_ldc2 (pc := 58) (dd d_Rdr_packWords 32 rfl) c_Rdr_85 ?_
        refine g_lmul (pc := 61) (dd d_Rdr_packWords 33 rfl) ?_
        refine g_iload (pc := 62) (dd d_Rdr_packWords 34 rfl) rfl ?_
        refine g_callS (pc := 64) (dd d_Rdr_packWords 35 rfl) s_Rdr_87 (ev_Rdr_letterNumber _) rfl (by rw [hk]; decide) (Nat.le_of_ble_eq_true rfl) ⟨Nat.zero_le _, Nat.zero_le _⟩ rfl ?_
        refine g_i2l (pc := 67) (dd d_Rdr_packWords 36 rfl) ?_
        refine g_ladd (pc := 68) (dd d_Rdr_packWords 37 rfl) ?_
        refine g_lstore (pc := 69) (dd d_Rdr_packWords 38 rfl) (by decide) ?_
        refine g_iincW (pc := 71) (w := 1) (dd d_Rdr_packWords 39 rfl) rfl (by decide) (by decide) ?_
        refine g_goto (pc := 74) (tgt := 8) (dd d_Rdr_packWords 40 rfl) (by decide) ?_
        refine g_drop [7] ?_
        rw [if_neg q] at hok2
        have e : pk a (b :: l) σ k p = pk a l σ k (p * 32 + (ch8 b - 97 + 1).toInt64) := by rw [pk, if_neg q]
        rw [e] at hT
        have h := ih (i + 1) k σ (p * 32 + (ch8 b - 97 + 1).toInt64) h3 h1 hok2 hk50 hT
        rw [nI_succ] at h
        exact h
      · refine g_aload_n (pc := 42) (dd d_Rdr_packWords 23 rfl) rfl ?_
        refine g_iload_n (pc := 43) (dd d_Rdr_packWords 24 rfl) rfl ?_
        refine g_lload (pc := 44) (dd d_Rdr_packWords 25 rfl) rfl ?_
        refine g_last (pc := 46) (dd d_Rdr_packWords 26 rfl) ho (nI_in hk5 (by decide)) ?_
        refine g_lconst (pc := 47) (v := 0) (dd d_Rdr_packWords 27 rfl) (by decide) ?_
        refine g_lstore (pc := 48) (dd d_Rdr_packWords 28 rfl) (by decide) ?_
        refine g_iincW (pc := 50) (w := 1) (dd d_Rdr_packWords 29 rfl) rfl (by decide) (by decide) ?_
        refine g_goto (pc := 53) (tgt := 71) (dd d_Rdr_packWords 30 rfl) (by decide) ?_
        refine g_iincW (pc := 71) (w := 1) (dd d_Rdr_packWords 39 rfl) rfl (by decide) (by decide) ?_
        refine g_goto (pc := 74) (tgt := 8) (dd d_Rdr_packWords 40 rfl) (by decide) ?_
        refine g_drop [7] ?_
        rw [if_pos q] at hok2
        have e : pk a (b :: l) σ k p = pk a l (stJ σ a k p) (k + 1) 0 := by rw [pk, if_pos q]
        rw [e] at hT
        have h := ih (i + 1) (k + 1) (stJ σ a k p) 0 h3 h1 hok2 (by omega) hT
        rw [nI_succ, nI_succ] at h
        rw [nI_clamp (by omega)]
        exact h
  exact main bs 0 f σ 0 rfl (Nat.zero_le _) hok hf hT
