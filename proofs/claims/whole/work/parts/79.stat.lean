/-! a statement worked out, on both sides -/
/-- the class's cells that a rule leaves alone -/
def FCr (W m : Nat) (C0 C : IM) : Prop := (∀ b, b ≠ W → b ≠ W + 1 → b ≠ W + 2 → b ≠ m + 11 → b ≠ m + 12 → b ≠ m + 13 → C b = C0 b) ∧ (∀ j, j ≠ 7 → C (m + 13) j = C0 (m + 13) j) ∧ ∀ j, j < 1 ∨ 10 ≤ j → C (W + 1) j = C0 (W + 1) j
/-- no room for a pair: how both sides stand then -/
def N4 (W m : Nat) (C0 R0 C R : IM) : Prop := FCr W m C0 C ∧ C (W + 1) 1 = 4 ∧ C (W + 1) 5 = -1 ∧ (∀ j, 2 ≤ j → j < 5 → C (W + 1) j = 0) ∧ FRr R0 R ∧ R MO 82 = 4 ∧ PP m C R ∧ ∀ j, j < 3 → R MO (83 + j) = R0 MO (83 + j)
theorem estat {A : AP} {p q s n W m ko ro so co : Nat} {dp : Nat → Nat} {C0 R0 : IM} (ec : EC A p q n W m ko ro so co C0 R0) (hs : s < aNs A) (sok : ∀ i, aCf A s ≤ i → i < aCf A (s + 1) → Sok A (aNm A q) dp (aCf A (s + 1)) i) : ∀ (d i : Nat) (C R : IM), aCf A (s + 1) - i ≤ d → aCf A s ≤ i → i ≤ aCf A (s + 1) → ES W m (aNm A q) C0 R0 (dp i) C R → R MO 82 = 0 → (∃ C' R' e, e ≤ aCf A (s + 1) - i ∧ ES W m (aNm A q) C0 R0 (dp (aCf A (s + 1))) C' R' ∧ R' MO 82 = 0 ∧ (∀ f stop, aCf A (s + 1) + s ≤ stop → stop ≤ 900 → l_Wrk_workOut_46 n W p m (f + e) (nI stop) (nI (i + s)) C = l_Wrk_workOut_46 n W p m f (nI stop) (nI (aCf A (s + 1) + s)) C') ∧ ∀ f, aCf A (s + 1) - i < f → l_Mod_work_7 n f (nI (co + aCf A (s + 1))) (nI (co + i)) R = b_Mod_work_186 n R') ∨ (tbi (aNm A q) 15 ∧ ∃ C' R' v e, e ≤ aCf A (s + 1) - i ∧ (∀ f stop, aCf A (s + 1) + s ≤ stop → stop ≤ 900 → l_Wrk_workOut_46 n W p m (f + e) (nI stop) (nI (i + s)) C = some C') ∧ (∀ f, aCf A (s + 1) - i < f → l_Mod_work_7 n f (nI (co + aCf A (s + 1))) (nI (co + i)) R = some (v, R')) ∧ N4 W m C0 R0 C' R')
  | d, i, C, R, hd, hi1, hi2, es, hr => by
    by_cases q0 : i = aCf A (s + 1)
    · refine Or.inl ⟨C, R, 0, by omega, by rw [← q0]; exact es, hr, fun f stop _ _ => by rw [← q0]; rfl, fun f hf => ?_⟩
      obtain ⟨f', hf'⟩ : ∃ f', f = f' + 1 := ⟨f - 1, by omega⟩
      rw [hf', l_Mod_work_7, q0, if_pos (Int32.le_refl _)]
    · match d, hd with
      | 0, hd => omega
      | d + 1, hd =>
        rcases estep ec hs hi1 (by omega) (sok i hi1 (by omega)) es hr with ⟨k, C1, R1, k1, k2, es1, hr1, c1, r1⟩ | ⟨t15, C1, R1, v, c1, r1, x1, x2, x3, x4, x5, y1, y2, y3⟩
        · rcases estat ec hs sok d k C1 R1 (by omega) (by omega) k2 es1 hr1 with ⟨C', R', e, he, es', hr', c', r'⟩ | ⟨t15, C', R', v, e, he, c', r', n4⟩
          · refine Or.inl ⟨C', R', e + 1, by omega, es', hr', fun f stop h1 h2 => ?_, fun f hf => ?_⟩
            · rw [show f + (e + 1) = f + e + 1 from rfl, c1 (f + e) stop h1 h2, c' f stop h1 h2]
            · obtain ⟨f', hf'⟩ : ∃ f', f = f' + 1 := ⟨f - 1, by omega⟩
              rw [hf', r1 f', r' f' (by omega)]
          · refine Or.inr ⟨t15, C', R', v, e + 1, by omega, fun f stop h1 h2 => ?_, fun f hf => ?_, n4⟩
            · rw [show f + (e + 1) = f + e + 1 from rfl, c1 (f + e) stop h1 h2, c' f stop h1 h2]
            · obtain ⟨f', hf'⟩ : ∃ f', f = f' + 1 := ⟨f - 1, by omega⟩
              rw [hf', r1 f', r' f' (by omega)]
        · obtain ⟨-, hm, hW, -⟩ := ec
          have w := Wm_of hW hm
          unfold Wm at w
          obtain ⟨-, -, -, ⟨a1, a2, a3⟩, a4, a5, -⟩ := es
          refine Or.inr ⟨t15, C1, R1, v, 1, by omega, fun f stop h1 h2 => c1 f stop h1 h2, fun f hf => ?_, ⟨⟨fun b q1 q2 q3 q4 q5 q6 => ?_, fun j hj => ?_, fun j hj => ?_⟩, x2, x3, x4, ⟨fun b q1 q2 q3 q4 => ?_, fun j q1 q2 q3 => ?_⟩, y3, ?_, fun j hj => ?_⟩⟩
          · obtain ⟨f', hf'⟩ : ∃ f', f = f' + 2 := ⟨f - 2, by omega⟩
            rw [hf', r1 f']
          · rw [x1 b q1 q2 q3, a1 b q1 q3 q4 q5 q6]
          · rw [x1 (m + 13) (by omega) (by omega) (by omega), a3 j hj]
          · rw [x5 j hj, a1 (W + 1) (by omega) (by omega) (by omega) (by omega) (by omega)]
          · rw [y1 b q1 q2, a4.1 b q1 q2 q3 q4]
          · rw [y2 j (by omega) (by omega), a4.2 j (by omega) q2 (by omega)]
          · exact PP_c (x1 _ (by omega) (by omega) (by omega)) (x1 _ (by omega) (by omega) (by omega)) (x1 _ (by omega) (by omega) (by omega)) (y1 _ (by decide) (by decide)) (y1 _ (by decide) (by decide)) (y2 55 (by decide) (by decide)) a5
          · rw [y2 (83 + j) (by omega) (by omega), a4.2 (83 + j) (by omega) (by omega) (by omega)]
