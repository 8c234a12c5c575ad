/-! one step of the class's loop, one of the reference's -/
theorem lc_val {n W p m f stop j : Nat} {C C1 C2 : IM} {st ex v : Int32} (hs : C (p + 1) j = st) (hx : C (p + 2) j = ex) (h1 : j < stop) (h2 : stop ≤ 900) (n1 : ¬ st = 186) (n2 : ¬ st = 191) (n3 : st < 41 ∨ 44 < st) (ev : f_Wrk_valueOf n W st ex m C = some (v, C1)) (pu : f_Wrk_push W v C1 = some C2) (np : ¬ (st = 37 ∧ v = -1)) (g : C2 (W + 1) 1 = 0) : l_Wrk_workOut_46 n W p m (f + 1) (nI stop) (nI j) C = l_Wrk_workOut_46 n W p m f (nI stop) (nI (j + 1)) C2 := by
  have e158 : b_Wrk_workOut_158 n W p m (l_Wrk_workOut_46 n W p m f) (nI stop) (nI j) st ex C = l_Wrk_workOut_46 n W p m f (nI stop) (nI (j + 1)) C2 := by
    rw [b_Wrk_workOut_158, ev, Option.bind_some, pu, Option.bind_some]
    have e193 : b_Wrk_workOut_193 n W p m (l_Wrk_workOut_46 n W p m f) (nI stop) (nI j) C2 = l_Wrk_workOut_46 n W p m f (nI stop) (nI (j + 1)) C2 := by
      rw [b_Wrk_workOut_193, if_pos (show C2 (W + 1) (1 : Int32).toNatClampNeg = 0 from g), nk1]
    by_cases q : st = 37
    · rw [if_pos q, if_neg (fun z => np ⟨q, z⟩), e193]
    · rw [if_neg q, e193]
  rw [l_Wrk_workOut_46, if_neg (nk h1 (by omega)), chk_i (nki (by omega) (by decide)), nkc (by omega), hs, hx, if_neg n1, if_neg n2]
  by_cases q : st < 41
  · rw [if_pos q, e158]
  · rcases n3 with n3 | n3
    · exact absurd n3 q
    · rw [if_neg q, if_pos n3, e158]
theorem mxe {j e : Nat} (h : j < e) (he : e < 5000) : maxI (nI j) (nI e - 1) + 1 = nI e := by
  have e1 : nI e - 1 = nI (e - 1) := nsb (b := 1) (by omega)
  have e2 : maxI (nI j) (nI (e - 1)) = nI (e - 1) := by
    unfold maxI
    by_cases q : j = e - 1
    · rw [q]; split <;> rfl
    · rw [if_pos ((nlt (by omega) (by omega)).mpr (by omega))]
  rw [e1, e2, nk1]
  congr 1
  omega
theorem lc_skip {n W p m f stop j e : Nat} {C : IM} (hs : C (p + 1) j = 186) (hx : C (p + 2) j = nI e) (h1 : j < stop) (h2 : stop ≤ 900) (he : j < e) (he2 : e ≤ 1000) (g : C (W + 1) 1 = 0) : l_Wrk_workOut_46 n W p m (f + 1) (nI stop) (nI j) C = l_Wrk_workOut_46 n W p m f (nI stop) (nI e) C := by
  rw [l_Wrk_workOut_46, if_neg (nk h1 (by omega)), chk_i (nki (by omega) (by decide)), nkc (by omega), hs, hx, if_pos rfl, b_Wrk_workOut_87, if_pos rfl, b_Wrk_workOut_102, b_Wrk_workOut_107, if_neg (by decide), b_Wrk_workOut_128, b_Wrk_workOut_193, if_pos (show C (W + 1) (1 : Int32).toNatClampNeg = 0 from g), mxe he (by omega)]
theorem lc_query {n W p m f stop j e h : Nat} {C : IM} (hs : C (p + 1) j = 191) (hx : C (p + 2) j = nI e) (h1 : j < stop) (h2 : stop ≤ 900) (he : j < e) (he2 : e ≤ 1000) (g : C (W + 1) 1 = 0) (hh : C W 2 = nI (h + 1)) (hh2 : h < 64) : l_Wrk_workOut_46 n W p m (f + 1) (nI stop) (nI j) C = if C (W + 2) h = 0 then l_Wrk_workOut_46 n W p m f (nI stop) (nI e) (up C W 2 (nI h)) else l_Wrk_workOut_46 n W p m f (nI stop) (nI (j + 1)) (up C W 2 (nI h)) := by
  have g' : up C W 2 (nI h) (W + 1) (1 : Int32).toNatClampNeg = 0 := by rw [up_o (by omega)]; exact g
  rw [l_Wrk_workOut_46, if_neg (nk h1 (by omega)), chk_i (nki (by omega) (by decide)), nkc (by omega), hs, hx, if_neg (by decide), if_pos rfl, b_Wrk_workOut_87, if_neg (by decide), pop_f hh hh2, Option.bind_some]
  by_cases q : C (W + 2) h = 0
  · rw [if_pos q, if_neg (by decide), b_Wrk_workOut_128, b_Wrk_workOut_193, if_pos g', mxe he (by omega), if_pos q]
  · rw [if_neg q, if_pos rfl, b_Wrk_workOut_128, b_Wrk_workOut_193, if_pos g', nk1, if_neg q]
theorem lr_const {n f g k h : Nat} {R : IM} {v : Int32} (hk : k < g) (hg : g ≤ 2000) (h82 : R MO 82 = 0) (hc : R A_code0 k = 300) (hv : R A_codeValue k = v) (hh : R MO 86 = nI h) (hh2 : h < 1000) : l_Mod_work_7 n (f + 1) (nI g) (nI k) R = l_Mod_work_7 n f (nI g) (nI (k + 1)) (up (up R A_stack h v) MO 86 (nI (h + 1))) := by
  have e1 : nI k + 1 - 1 = nI k := by rw [nk1]; exact nsb (b := 1) (by omega)
  rw [l_Mod_work_7, if_neg (nk hk (by omega)), h82, if_neg (by decide), chk_i (nki (by omega) (by decide)), nkc (show k < 5000 by omega), hc, if_pos rfl, e1, chk_i (nki (by omega) (by decide)), hh, chk_i (nki (by omega) (by decide)), nkc (show k < 5000 by omega), hv, nkc (by omega)]
  simp only [lt]
  rw [up_o (show MO ≠ A_stack by decide), hh, nk1, nk1, b_Mod_work_183]
theorem lr_name {n f g k h : Nat} {R : IM} {v c : Int32} (hk : k < g) (hg : g ≤ 2000) (h82 : R MO 82 = 0) (hc : R A_code0 k = c) (hc3 : ¬ c = 300) (hc5 : ¬ c < 500) (hv : f_Mod_nameValue (c - 500) R = some v) (hh : R MO 86 = nI h) (hh2 : h < 1000) : l_Mod_work_7 n (f + 1) (nI g) (nI k) R = l_Mod_work_7 n f (nI g) (nI (k + 1)) (up (up R A_stack h v) MO 86 (nI (h + 1))) := by
  rw [l_Mod_work_7, if_neg (nk hk (by omega)), h82, if_neg (by decide), chk_i (nki (by omega) (by decide)), nkc (show k < 5000 by omega), hc, if_neg hc3, if_neg hc5, hv, Option.bind_some, hh, chk_i (nki (by omega) (by decide)), nkc (by omega)]
  simp only [lt]
  rw [up_o (show MO ≠ A_stack by decide), hh, nk1, nk1, b_Mod_work_183]
theorem lr_skip {n f g k e : Nat} {R : IM} (hk : k < g) (hg : g ≤ 2000) (h82 : R MO 82 = 0) (hc : R A_code0 k = 302) (hv : R A_codeValue k = nI e) : l_Mod_work_7 n (f + 1) (nI g) (nI k) R = l_Mod_work_7 n f (nI g) (nI e) R := by
  have e1 : nI k + 1 - 1 = nI k := by rw [nk1]; exact nsb (b := 1) (by omega)
  rw [l_Mod_work_7, if_neg (nk hk (by omega)), h82, if_neg (by decide), chk_i (nki (by omega) (by decide)), nkc (show k < 5000 by omega), hc, if_neg (by decide), if_pos (by decide), if_neg (by decide), if_pos rfl, e1, chk_i (nki (by omega) (by decide)), nkc (show k < 5000 by omega), hv, b_Mod_work_183]
theorem lr_unless {n f g k e h : Nat} {R : IM} (hk : k < g) (hg : g ≤ 2000) (h82 : R MO 82 = 0) (hc : R A_code0 k = 303) (hv : R A_codeValue k = nI e) (hh : R MO 86 = nI (h + 1)) (hh2 : h < 1000) : l_Mod_work_7 n (f + 1) (nI g) (nI k) R = if R A_stack h = 0 then l_Mod_work_7 n f (nI g) (nI e) (up R MO 86 (nI h)) else l_Mod_work_7 n f (nI g) (nI (k + 1)) (up R MO 86 (nI h)) := by
  have e1 : nI k + 1 - 1 = nI k := by rw [nk1]; exact nsb (b := 1) (by omega)
  have e2 : nI (h + 1) - 1 = nI h := nsb (b := 1) (by omega)
  rw [l_Mod_work_7, if_neg (nk hk (by omega)), h82, if_neg (by decide), chk_i (nki (by omega) (by decide)), nkc (show k < 5000 by omega), hc, if_neg (by decide), if_pos (by decide), if_pos rfl, lt, hh, e2, up_self, chk_i (nki (by omega) (by decide)), nkc (by omega), up_o (show A_stack ≠ MO by decide)]
  by_cases q : R A_stack h = 0
  · rw [if_pos q, if_pos q, e1, chk_i (nki (by omega) (by decide)), nkc (show k < 5000 by omega), up_o (show A_codeValue ≠ MO by decide), hv, b_Mod_work_151, b_Mod_work_183]
  · rw [if_neg q, if_neg q, b_Mod_work_151, b_Mod_work_183, nk1]
theorem lr_sig {n f g k : Nat} {R R' : IM} {c : Int32} (hk : k < g) (hg : g ≤ 2000) (h82 : R MO 82 = 0) (hc : R A_code0 k = c) (n1 : ¬ c = 300) (n2 : c < 500) (n3 : ¬ c = 303) (n4 : ¬ c = 302) (hs : f_Mod_signed n c (nI (k + 1)) R = some (nI (k + 1), R')) : l_Mod_work_7 n (f + 1) (nI g) (nI k) R = l_Mod_work_7 n f (nI g) (nI (k + 1)) R' := by
  rw [l_Mod_work_7, if_neg (nk hk (by omega)), h82, if_neg (by decide), chk_i (nki (by omega) (by decide)), nkc (show k < 5000 by omega), hc, if_neg n1, if_pos n2, if_neg n3, if_neg n4, nk1, hs, Option.bind_some, b_Mod_work_183]
theorem sig_one {n h : Nat} {R : IM} {c k v : Int32} (h1 : f_Mod_isOne c R = some 1) (hh : R MO 86 = nI (h + 1)) (hh2 : h < 1000) (hv : f_Mod_one n c (R A_stack h) R = some v) : f_Mod_signed n c k R = some (k, up R A_stack h v) := by
  have e2 : nI (h + 1) - 1 = nI h := nsb (b := 1) (by omega)
  rw [f_Mod_signed, h1, Option.bind_some, if_neg (by decide), hh, e2, chk_i (nki (by omega) (by decide)), nkc (by omega), hv, Option.bind_some, lt, b_Mod_signed_83]
theorem sig_two {n h : Nat} {R R1 : IM} {c k v : Int32} (h1 : f_Mod_isOne c R = some 0) (hh : R MO 86 = nI (h + 2)) (hh2 : h < 900) (hv : f_Mod_two n c (R A_stack h) (R A_stack (h + 1)) (up R MO 86 (nI (h + 1))) = some (v, R1)) : f_Mod_signed n c k R = some (k, up R1 A_stack h v) := by
  have e2 : nI (h + 2) - 1 = nI (h + 1) := nsb (b := 1) (by omega)
  have e3 : nI (h + 1) - 1 = nI h := nsb (b := 1) (by omega)
  rw [f_Mod_signed, h1, Option.bind_some, if_pos rfl, lt, hh, e2, up_self, e3, chk_i (nki (by omega) (by decide)), chk_i (nki (by omega) (by decide)), nkc (by omega), nkc (by omega), up_o (show A_stack ≠ MO by decide), up_o (show A_stack ≠ MO by decide), hv, Option.bind_some, lt, b_Mod_signed_83]
