/-! cells by name (the reference's), their kinds; what a state of the reference has that never changes -/
abbrev MO : Nat := 102
abbrev A_signs : Nat := 103
abbrev A_words : Nat := 104
abbrev A_list : Nat := 105
abbrev A_code0 : Nat := 106
abbrev A_codeValue : Nat := 107
abbrev A_statementKind : Nat := 108
abbrev A_statementAt : Nat := 109
abbrev A_statementFrom : Nat := 110
abbrev A_statementTo : Nat := 111
abbrev A_ruleFrom : Nat := 112
abbrev A_ruleTo : Nat := 113
abbrev A_ruleOf : Nat := 114
abbrev A_named : Nat := 115
abbrev A_pile : Nat := 116
abbrev A_pileAt : Nat := 117
abbrev A_kept : Nat := 118
abbrev A_code : Nat := 119
abbrev A_codeTags : Nat := 120
abbrev A_ints : Nat := 121
abbrev A_held : Nat := 122
abbrev A_owners : Nat := 123
abbrev A_registers : Nat := 124
abbrev A_registerTags : Nat := 125
abbrev A_inputValues : Nat := 126
abbrev A_inputTags : Nat := 127
abbrev A_output : Nat := 128
abbrev A_firsts : Nat := 129
abbrev A_seconds : Nat := 130
abbrev A_cache : Nat := 131
abbrev A_answers : Nat := 132
abbrev A_question : Nat := 133
abbrev A_entries : Nat := 134
abbrev A_counts : Nat := 135
abbrev A_caseValue : Nat := 136
abbrev A_witness : Nat := 137
abbrev A_scalars : Nat := 138
abbrev A_other : Nat := 139
abbrev A_stack : Nat := 140
theorem ob_MO : Ob NN MO 10 := by decide
theorem ar_A_signs : Ar NN A_signs .int 900 := by decide
theorem ar_A_words : Ar NN A_words .long 70 := by decide
theorem ar_A_list : Ar NN A_list .int 100 := by decide
theorem ar_A_code0 : Ar NN A_code0 .int 2000 := by decide
theorem ar_A_codeValue : Ar NN A_codeValue .int 2000 := by decide
theorem ar_A_statementKind : Ar NN A_statementKind .int 600 := by decide
theorem ar_A_statementAt : Ar NN A_statementAt .int 300 := by decide
theorem ar_A_statementFrom : Ar NN A_statementFrom .int 600 := by decide
theorem ar_A_statementTo : Ar NN A_statementTo .int 600 := by decide
theorem ar_A_ruleFrom : Ar NN A_ruleFrom .int 602 := by decide
theorem ar_A_ruleTo : Ar NN A_ruleTo .int 602 := by decide
theorem ar_A_ruleOf : Ar NN A_ruleOf .int 44 := by decide
theorem ar_A_named : Ar NN A_named .int 602 := by decide
theorem ar_A_pile : Ar NN A_pile .int 1000 := by decide
theorem ar_A_pileAt : Ar NN A_pileAt .int 1000 := by decide
theorem ar_A_kept : Ar NN A_kept .int 900 := by decide
theorem ar_A_code : Ar NN A_code .int 64 := by decide
theorem ar_A_codeTags : Ar NN A_codeTags .int 64 := by decide
theorem ar_A_ints : Ar NN A_ints .int 96 := by decide
theorem ar_A_held : Ar NN A_held .int 96 := by decide
theorem ar_A_owners : Ar NN A_owners .int 96 := by decide
theorem ar_A_registers : Ar NN A_registers .int 8 := by decide
theorem ar_A_registerTags : Ar NN A_registerTags .int 8 := by decide
theorem ar_A_inputValues : Ar NN A_inputValues .int 16 := by decide
theorem ar_A_inputTags : Ar NN A_inputTags .int 16 := by decide
theorem ar_A_output : Ar NN A_output .int 40 := by decide
theorem ar_A_firsts : Ar NN A_firsts .int 60 := by decide
theorem ar_A_seconds : Ar NN A_seconds .int 60 := by decide
theorem ar_A_cache : Ar NN A_cache .int 128 := by decide
theorem ar_A_answers : Ar NN A_answers .int 40 := by decide
theorem ar_A_question : Ar NN A_question .int 16 := by decide
theorem ar_A_entries : Ar NN A_entries .int 96 := by decide
theorem ar_A_counts : Ar NN A_counts .int 88 := by decide
theorem ar_A_caseValue : Ar NN A_caseValue .int 15 := by decide
theorem ar_A_witness : Ar NN A_witness .int 15 := by decide
theorem ar_A_scalars : Ar NN A_scalars .int 16 := by decide
theorem ar_A_other : Ar NN A_other .int 996 := by decide
theorem ar_A_stack : Ar NN A_stack .int 1000 := by decide
theorem ob_0 : Ob NN 0 0 := by decide
theorem ob_1 : Ob NN 1 1 := by decide
theorem ar_2 : Ar NN 2 .char 900 := by decide
theorem ar_3 : Ar NN 3 .int 901 := by decide
theorem ar_4 : Ar NN 4 .int 901 := by decide
theorem ar_5 : Ar NN 5 .int 901 := by decide
theorem ar_6 : Ar NN 6 .long 50 := by decide
theorem ob_7 : Ob NN 7 2 := by decide
theorem ob_8 : Ob NN 8 3 := by decide
theorem ar_9 : Ar NN 9 .int 900 := by decide
theorem ar_10 : Ar NN 10 .int 900 := by decide
theorem ar_11 : Ar NN 11 .int 22 := by decide
theorem ar_12 : Ar NN 12 .int 22 := by decide
theorem ar_13 : Ar NN 13 .int 22 := by decide
theorem ar_14 : Ar NN 14 .int 22 := by decide
theorem ob_15 : Ob NN 15 4 := by decide
theorem ob_16 : Ob NN 16 5 := by decide
theorem ar_17 : Ar NN 17 .int 64 := by decide
theorem ar_18 : Ar NN 18 .int 64 := by decide
theorem ar_19 : Ar NN 19 .int 96 := by decide
theorem ar_20 : Ar NN 20 .int 96 := by decide
theorem ar_21 : Ar NN 21 .int 96 := by decide
theorem ar_22 : Ar NN 22 .int 9 := by decide
theorem ar_23 : Ar NN 23 .int 9 := by decide
theorem ar_24 : Ar NN 24 .int 16 := by decide
theorem ar_25 : Ar NN 25 .int 16 := by decide
theorem ar_26 : Ar NN 26 .int 40 := by decide
theorem ar_27 : Ar NN 27 .int 60 := by decide
theorem ar_28 : Ar NN 28 .int 60 := by decide
theorem ar_29 : Ar NN 29 .int 8 := by decide
theorem ar_30 : Ar NN 30 .int 88 := by decide
theorem ob_31 : Ob NN 31 6 := by decide
theorem ar_32 : Ar NN 32 .int 200 := by decide
theorem ob_33 : Ob NN 33 6 := by decide
theorem ar_34 : Ar NN 34 .int 96 := by decide
theorem ob_35 : Ob NN 35 7 := by decide
theorem ob_36 : Ob NN 36 8 := by decide
theorem ar_37 : Ar NN 37 .int 25 := by decide
theorem ar_38 : Ar NN 38 .int 64 := by decide
theorem ar_39 : Ar NN 39 .int 6 := by decide
theorem ob_40 : Ob NN 40 9 := by decide
theorem ar_41 : Ar NN 41 .int 15 := by decide
theorem ob_42 : Ob NN 42 8 := by decide
theorem ar_43 : Ar NN 43 .int 25 := by decide
theorem ar_44 : Ar NN 44 .int 64 := by decide
theorem ob_45 : Ob NN 45 8 := by decide
theorem ar_46 : Ar NN 46 .int 25 := by decide
theorem ar_47 : Ar NN 47 .int 64 := by decide
theorem ob_48 : Ob NN 48 3 := by decide
theorem ar_49 : Ar NN 49 .int 900 := by decide
theorem ar_50 : Ar NN 50 .int 900 := by decide
theorem ar_51 : Ar NN 51 .int 22 := by decide
theorem ar_52 : Ar NN 52 .int 22 := by decide
theorem ar_53 : Ar NN 53 .int 22 := by decide
theorem ar_54 : Ar NN 54 .int 22 := by decide
theorem ob_55 : Ob NN 55 11 := by decide
theorem ar_56 : Ar NN 56 .byte 16 := by decide
theorem ob_57 : Ob NN 57 3 := by decide
theorem ar_58 : Ar NN 58 .int 900 := by decide
theorem ar_59 : Ar NN 59 .int 900 := by decide
theorem ar_60 : Ar NN 60 .int 22 := by decide
theorem ar_61 : Ar NN 61 .int 22 := by decide
theorem ar_62 : Ar NN 62 .int 22 := by decide
theorem ar_63 : Ar NN 63 .int 22 := by decide
theorem ob_64 : Ob NN 64 5 := by decide
theorem ar_65 : Ar NN 65 .int 64 := by decide
theorem ar_66 : Ar NN 66 .int 64 := by decide
theorem ar_67 : Ar NN 67 .int 96 := by decide
theorem ar_68 : Ar NN 68 .int 96 := by decide
theorem ar_69 : Ar NN 69 .int 96 := by decide
theorem ar_70 : Ar NN 70 .int 9 := by decide
theorem ar_71 : Ar NN 71 .int 9 := by decide
theorem ar_72 : Ar NN 72 .int 16 := by decide
theorem ar_73 : Ar NN 73 .int 16 := by decide
theorem ar_74 : Ar NN 74 .int 40 := by decide
theorem ar_75 : Ar NN 75 .int 60 := by decide
theorem ar_76 : Ar NN 76 .int 60 := by decide
theorem ar_77 : Ar NN 77 .int 8 := by decide
theorem ar_78 : Ar NN 78 .int 88 := by decide
theorem ob_79 : Ob NN 79 6 := by decide
theorem ar_80 : Ar NN 80 .int 200 := by decide
theorem ob_81 : Ob NN 81 6 := by decide
theorem ar_82 : Ar NN 82 .int 96 := by decide
theorem ob_83 : Ob NN 83 5 := by decide
theorem ar_84 : Ar NN 84 .int 64 := by decide
theorem ar_85 : Ar NN 85 .int 64 := by decide
theorem ar_86 : Ar NN 86 .int 96 := by decide
theorem ar_87 : Ar NN 87 .int 96 := by decide
theorem ar_88 : Ar NN 88 .int 96 := by decide
theorem ar_89 : Ar NN 89 .int 9 := by decide
theorem ar_90 : Ar NN 90 .int 9 := by decide
theorem ar_91 : Ar NN 91 .int 16 := by decide
theorem ar_92 : Ar NN 92 .int 16 := by decide
theorem ar_93 : Ar NN 93 .int 40 := by decide
theorem ar_94 : Ar NN 94 .int 60 := by decide
theorem ar_95 : Ar NN 95 .int 60 := by decide
theorem ar_96 : Ar NN 96 .int 8 := by decide
theorem ar_97 : Ar NN 97 .int 88 := by decide
theorem ob_98 : Ob NN 98 6 := by decide
theorem ar_99 : Ar NN 99 .int 200 := by decide
theorem ob_100 : Ob NN 100 6 := by decide
theorem ar_101 : Ar NN 101 .int 96 := by decide
theorem Tg_eq {Δ : Dx} {Γ : Cx} {r r2 : Option Value} {n : Nat} {σ σ2 : St} {mc ms : Nat} (h : Tg Δ Γ r n σ mc ms) (h1 : r = r2) (h2 : σ = σ2) : Tg Δ Γ r2 n σ2 mc ms := by subst h1; subst h2; exact h
theorem stI_at {σ : St} {a k b j : Nat} {x : Int32} : (stI σ a k x).1 b j = if b = a ∧ j = k then x else σ.1 b j := by
  show upA σ.1 a (upd (σ.1 a) k x) b j = _
  unfold upA upd
  by_cases h : b = a
  · subst h
    by_cases h2 : j = k
    · rw [if_pos rfl, if_pos h2, if_pos ⟨rfl, h2⟩]
    · rw [if_pos rfl, if_neg h2, if_neg (fun q => h2 q.2)]
  · rw [if_neg h, if_neg (fun q => h q.1)]
theorem stI_self {σ : St} {a k : Nat} {x : Int32} : (stI σ a k x).1 a k = x := by rw [stI_at, if_pos ⟨rfl, rfl⟩]
theorem stI_ne {σ : St} {a k b j : Nat} {x : Int32} (h : b ≠ a ∨ j ≠ k) : (stI σ a k x).1 b j = σ.1 b j := by
  rw [stI_at, if_neg]
  rintro ⟨h1, h2⟩
  rcases h with h | h
  · exact h h1
  · exact h h2
abbrev Lx : Type := (Nat → Nat → Int64) × (Nat → Nat → Value)
/-- one int anew -/
def up (I : Nat → Nat → Int32) (a k : Nat) (x : Int32) : Nat → Nat → Int32 := upA I a (upd (I a) k x)
theorem stI_up {I : Nat → Nat → Int32} {X : Lx} {a k : Nat} {x : Int32} : stI (I, X) a k x = (up I a k x, X) := rfl
theorem up_at {I : Nat → Nat → Int32} {a k b j : Nat} {x : Int32} : up I a k x b j = if b = a ∧ j = k then x else I b j := stI_at (σ := (I, ((fun _ _ => 0), (fun _ _ => .null))))
theorem up_self {I : Nat → Nat → Int32} {a k : Nat} {x : Int32} : up I a k x a k = x := by rw [up_at, if_pos ⟨rfl, rfl⟩]
theorem up_ne {I : Nat → Nat → Int32} {a k b j : Nat} {x : Int32} (h : b ≠ a ∨ j ≠ k) : up I a k x b j = I b j := stI_ne (σ := (I, ((fun _ _ => 0), (fun _ _ => .null)))) h
theorem e01 {p : Prop} [Decidable p] : ((if p then (1 : Int32) else 0) = 0) = ¬ p := by by_cases h : p <;> simp [h]
theorem n01 {p : Prop} [Decidable p] : (¬ (if p then (1 : Int32) else 0) = 0) = p := by by_cases h : p <;> simp [h]
theorem up_o {I : Nat → Nat → Int32} {a k b j : Nat} {x : Int32} (h : b ≠ a) : up I a k x b j = I b j := up_ne (Or.inl h)
theorem up_s {I : Nat → Nat → Int32} {a k j : Nat} {x : Int32} : up I a k x a j = if j = k then x else I a j := by rw [up_at]; simp only [true_and]
theorem e10 {p : Prop} [Decidable p] : ((if p then (0 : Int32) else 1) = 0) = p := by by_cases h : p <;> simp [h]
theorem n10 {p : Prop} [Decidable p] : (¬ (if p then (0 : Int32) else 1) = 0) = ¬ p := by by_cases h : p <;> simp [h]
theorem e1x {p : Prop} [Decidable p] {x : Int32} : ((if p then (1 : Int32) else x) = 0) = (¬ p ∧ x = 0) := by by_cases h : p <;> simp [h]
theorem e0x {p : Prop} [Decidable p] {x : Int32} : ((if p then (0 : Int32) else x) = 0) = (p ∨ x = 0) := by by_cases h : p <;> simp [h]
theorem i10 : ((1 : Int32) = 0) = False := by simp
/-- longs and references: those of the reference object are its arrays, and its words are those of the language -/
def wdsL : List Int64 := [667688, 702282316259, 186861, 4225, 690469079731, 872425337517, 4545, 591, 18936, 24621218, 175404, 132588, 5848723, 538282, 272041538, 487, 375084, 21167, 457, 175149, 540228, 378925, 0, 0, 0, 0, 0, 0, 0, 0, 112, 1, 2, 3, 54, 86, 118, 23, 15, 9, 14, 168419, 187144354, 18912643, 9016902, 0, 0, 0, 0, 0, 136366, 7220, 680110, 19053295, 0, 0, 0, 0, 0, 0, 599088, 21612838, 149392563, 183330, 641, 150007, 143528, 624535313586, 21676489, 178670]
def MX (Δ : Dx) (X : Lx) : Prop := (X.2 MO 1 = .ref (Δ.ba + A_signs) ∧ X.2 MO 3 = .ref (Δ.ba + A_words) ∧ X.2 MO 9 = .ref (Δ.ba + A_list) ∧ X.2 MO 16 = .ref (Δ.ba + A_code0) ∧ X.2 MO 17 = .ref (Δ.ba + A_codeValue) ∧ X.2 MO 19 = .ref (Δ.ba + A_statementKind) ∧ X.2 MO 20 = .ref (Δ.ba + A_statementAt) ∧ X.2 MO 21 = .ref (Δ.ba + A_statementFrom) ∧ X.2 MO 22 = .ref (Δ.ba + A_statementTo) ∧ X.2 MO 24 = .ref (Δ.ba + A_ruleFrom) ∧ X.2 MO 25 = .ref (Δ.ba + A_ruleTo) ∧ X.2 MO 26 = .ref (Δ.ba + A_ruleOf) ∧ X.2 MO 27 = .ref (Δ.ba + A_named) ∧ X.2 MO 30 = .ref (Δ.ba + A_pile) ∧ X.2 MO 31 = .ref (Δ.ba + A_pileAt) ∧ X.2 MO 33 = .ref (Δ.ba + A_kept) ∧ X.2 MO 35 = .ref (Δ.ba + A_code) ∧ X.2 MO 36 = .ref (Δ.ba + A_codeTags) ∧ X.2 MO 37 = .ref (Δ.ba + A_ints) ∧ X.2 MO 38 = .ref (Δ.ba + A_held) ∧ X.2 MO 39 = .ref (Δ.ba + A_owners) ∧ X.2 MO 40 = .ref (Δ.ba + A_registers) ∧ X.2 MO 41 = .ref (Δ.ba + A_registerTags) ∧ X.2 MO 46 = .ref (Δ.ba + A_inputValues) ∧ X.2 MO 47 = .ref (Δ.ba + A_inputTags) ∧ X.2 MO 49 = .ref (Δ.ba + A_output) ∧ X.2 MO 56 = .ref (Δ.ba + A_firsts) ∧ X.2 MO 57 = .ref (Δ.ba + A_seconds) ∧ X.2 MO 60 = .ref (Δ.ba + A_cache) ∧ X.2 MO 61 = .ref (Δ.ba + A_answers) ∧ X.2 MO 62 = .ref (Δ.ba + A_question) ∧ X.2 MO 64 = .ref (Δ.ba + A_entries) ∧ X.2 MO 65 = .ref (Δ.ba + A_counts) ∧ X.2 MO 70 = .ref (Δ.ba + A_caseValue) ∧ X.2 MO 72 = .ref (Δ.ba + A_witness) ∧ X.2 MO 73 = .ref (Δ.ba + A_scalars) ∧ X.2 MO 74 = .ref (Δ.ba + A_other) ∧ X.2 MO 87 = .ref (Δ.ba + A_stack)) ∧ ∀ k, k < 70 → X.1 A_words k = wdsL.getD k 0
theorem mr_signs {Δ : Dx} {X : Lx} (h : MX Δ X) : X.2 MO 1 = .ref (Δ.ba + A_signs) := h.1.1
theorem mr_words {Δ : Dx} {X : Lx} (h : MX Δ X) : X.2 MO 3 = .ref (Δ.ba + A_words) := h.1.2.1
theorem mr_list {Δ : Dx} {X : Lx} (h : MX Δ X) : X.2 MO 9 = .ref (Δ.ba + A_list) := h.1.2.2.1
theorem mr_code0 {Δ : Dx} {X : Lx} (h : MX Δ X) : X.2 MO 16 = .ref (Δ.ba + A_code0) := h.1.2.2.2.1
theorem mr_codeValue {Δ : Dx} {X : Lx} (h : MX Δ X) : X.2 MO 17 = .ref (Δ.ba + A_codeValue) := h.1.2.2.2.2.1
theorem mr_statementKind {Δ : Dx} {X : Lx} (h : MX Δ X) : X.2 MO 19 = .ref (Δ.ba + A_statementKind) := h.1.2.2.2.2.2.1
theorem mr_statementAt {Δ : Dx} {X : Lx} (h : MX Δ X) : X.2 MO 20 = .ref (Δ.ba + A_statementAt) := h.1.2.2.2.2.2.2.1
theorem mr_statementFrom {Δ : Dx} {X : Lx} (h : MX Δ X) : X.2 MO 21 = .ref (Δ.ba + A_statementFrom) := h.1.2.2.2.2.2.2.2.1
theorem mr_statementTo {Δ : Dx} {X : Lx} (h : MX Δ X) : X.2 MO 22 = .ref (Δ.ba + A_statementTo) := h.1.2.2.2.2.2.2.2.2.1
theorem mr_ruleFrom {Δ : Dx} {X : Lx} (h : MX Δ X) : X.2 MO 24 = .ref (Δ.ba + A_ruleFrom) := h.1.2.2.2.2.2.2.2.2.2.1
theorem mr_ruleTo {Δ : Dx} {X : Lx} (h : MX Δ X) : X.2 MO 25 = .ref (Δ.ba + A_ruleTo) := h.1.2.2.2.2.2.2.2.2.2.2.1
theorem mr_ruleOf {Δ : Dx} {X : Lx} (h : MX Δ X) : X.2 MO 26 = .ref (Δ.ba + A_ruleOf) := h.1.2.2.2.2.2.2.2.2.2.2.2.1
theorem mr_named {Δ : Dx} {X : Lx} (h : MX Δ X) : X.2 MO 27 = .ref (Δ.ba + A_named) := h.1.2.2.2.2.2.2.2.2.2.2.2.2.1
theorem mr_pile {Δ : Dx} {X : Lx} (h : MX Δ X) : X.2 MO 30 = .ref (Δ.ba + A_pile) := h.1.2.2.2.2.2.2.2.2.2.2.2.2.2.1
theorem mr_pileAt {Δ : Dx} {X : Lx} (h : MX Δ X) : X.2 MO 31 = .ref (Δ.ba + A_pileAt) := h.1.2.2.2.2.2.2.2.2.2.2.2.2.2.2.1
theorem mr_kept {Δ : Dx} {X : Lx} (h : MX Δ X) : X.2 MO 33 = .ref (Δ.ba + A_kept) := h.1.2.2.2.2.2.2.2.2.2.2.2.2.2.2.2.1
theorem mr_code {Δ : Dx} {X : Lx} (h : MX Δ X) : X.2 MO 35 = .ref (Δ.ba + A_code) := h.1.2.2.2.2.2.2.2.2.2.2.2.2.2.2.2.2.1
theorem mr_codeTags {Δ : Dx} {X : Lx} (h : MX Δ X) : X.2 MO 36 = .ref (Δ.ba + A_codeTags) := h.1.2.2.2.2.2.2.2.2.2.2.2.2.2.2.2.2.2.1
theorem mr_ints {Δ : Dx} {X : Lx} (h : MX Δ X) : X.2 MO 37 = .ref (Δ.ba + A_ints) := h.1.2.2.2.2.2.2.2.2.2.2.2.2.2.2.2.2.2.2.1
theorem mr_held {Δ : Dx} {X : Lx} (h : MX Δ X) : X.2 MO 38 = .ref (Δ.ba + A_held) := h.1.2.2.2.2.2.2.2.2.2.2.2.2.2.2.2.2.2.2.2.1
theorem mr_owners {Δ : Dx} {X : Lx} (h : MX Δ X) : X.2 MO 39 = .ref (Δ.ba + A_owners) := h.1.2.2.2.2.2.2.2.2.2.2.2.2.2.2.2.2.2.2.2.2.1
theorem mr_registers {Δ : Dx} {X : Lx} (h : MX Δ X) : X.2 MO 40 = .ref (Δ.ba + A_registers) := h.1.2.2.2.2.2.2.2.2.2.2.2.2.2.2.2.2.2.2.2.2.2.1
theorem mr_registerTags {Δ : Dx} {X : Lx} (h : MX Δ X) : X.2 MO 41 = .ref (Δ.ba + A_registerTags) := h.1.2.2.2.2.2.2.2.2.2.2.2.2.2.2.2.2.2.2.2.2.2.2.1
theorem mr_inputValues {Δ : Dx} {X : Lx} (h : MX Δ X) : X.2 MO 46 = .ref (Δ.ba + A_inputValues) := h.1.2.2.2.2.2.2.2.2.2.2.2.2.2.2.2.2.2.2.2.2.2.2.2.1
theorem mr_inputTags {Δ : Dx} {X : Lx} (h : MX Δ X) : X.2 MO 47 = .ref (Δ.ba + A_inputTags) := h.1.2.2.2.2.2.2.2.2.2.2.2.2.2.2.2.2.2.2.2.2.2.2.2.2.1
theorem mr_output {Δ : Dx} {X : Lx} (h : MX Δ X) : X.2 MO 49 = .ref (Δ.ba + A_output) := h.1.2.2.2.2.2.2.2.2.2.2.2.2.2.2.2.2.2.2.2.2.2.2.2.2.2.1
theorem mr_firsts {Δ : Dx} {X : Lx} (h : MX Δ X) : X.2 MO 56 = .ref (Δ.ba + A_firsts) := h.1.2.2.2.2.2.2.2.2.2.2.2.2.2.2.2.2.2.2.2.2.2.2.2.2.2.2.1
theorem mr_seconds {Δ : Dx} {X : Lx} (h : MX Δ X) : X.2 MO 57 = .ref (Δ.ba + A_seconds) := h.1.2.2.2.2.2.2.2.2.2.2.2.2.2.2.2.2.2.2.2.2.2.2.2.2.2.2.2.1
theorem mr_cache {Δ : Dx} {X : Lx} (h : MX Δ X) : X.2 MO 60 = .ref (Δ.ba + A_cache) := h.1.2.2.2.2.2.2.2.2.2.2.2.2.2.2.2.2.2.2.2.2.2.2.2.2.2.2.2.2.1
theorem mr_answers {Δ : Dx} {X : Lx} (h : MX Δ X) : X.2 MO 61 = .ref (Δ.ba + A_answers) := h.1.2.2.2.2.2.2.2.2.2.2.2.2.2.2.2.2.2.2.2.2.2.2.2.2.2.2.2.2.2.1
theorem mr_question {Δ : Dx} {X : Lx} (h : MX Δ X) : X.2 MO 62 = .ref (Δ.ba + A_question) := h.1.2.2.2.2.2.2.2.2.2.2.2.2.2.2.2.2.2.2.2.2.2.2.2.2.2.2.2.2.2.2.1
theorem mr_entries {Δ : Dx} {X : Lx} (h : MX Δ X) : X.2 MO 64 = .ref (Δ.ba + A_entries) := h.1.2.2.2.2.2.2.2.2.2.2.2.2.2.2.2.2.2.2.2.2.2.2.2.2.2.2.2.2.2.2.2.1
theorem mr_counts {Δ : Dx} {X : Lx} (h : MX Δ X) : X.2 MO 65 = .ref (Δ.ba + A_counts) := h.1.2.2.2.2.2.2.2.2.2.2.2.2.2.2.2.2.2.2.2.2.2.2.2.2.2.2.2.2.2.2.2.2.1
theorem mr_caseValue {Δ : Dx} {X : Lx} (h : MX Δ X) : X.2 MO 70 = .ref (Δ.ba + A_caseValue) := h.1.2.2.2.2.2.2.2.2.2.2.2.2.2.2.2.2.2.2.2.2.2.2.2.2.2.2.2.2.2.2.2.2.2.1
theorem mr_witness {Δ : Dx} {X : Lx} (h : MX Δ X) : X.2 MO 72 = .ref (Δ.ba + A_witness) := h.1.2.2.2.2.2.2.2.2.2.2.2.2.2.2.2.2.2.2.2.2.2.2.2.2.2.2.2.2.2.2.2.2.2.2.1
theorem mr_scalars {Δ : Dx} {X : Lx} (h : MX Δ X) : X.2 MO 73 = .ref (Δ.ba + A_scalars) := h.1.2.2.2.2.2.2.2.2.2.2.2.2.2.2.2.2.2.2.2.2.2.2.2.2.2.2.2.2.2.2.2.2.2.2.2.1
theorem mr_other {Δ : Dx} {X : Lx} (h : MX Δ X) : X.2 MO 74 = .ref (Δ.ba + A_other) := h.1.2.2.2.2.2.2.2.2.2.2.2.2.2.2.2.2.2.2.2.2.2.2.2.2.2.2.2.2.2.2.2.2.2.2.2.2.1
theorem mr_stack {Δ : Dx} {X : Lx} (h : MX Δ X) : X.2 MO 87 = .ref (Δ.ba + A_stack) := h.1.2.2.2.2.2.2.2.2.2.2.2.2.2.2.2.2.2.2.2.2.2.2.2.2.2.2.2.2.2.2.2.2.2.2.2.2.2
section Named
variable {Δ : Dx} {mi : MI} {Γ : Cx} {n k c : Nat} {I : Nat → Nat → Int32} {X : Lx} {pc : Nat} {lv : List (Option Value)} {rest : List Value}
theorem g_putiN {a ci j idx : Nat} {x : Int32} (hdg : decode mi.2.1 pc = .ok (.putfield idx, 3)) (hf : Fx mi.1.cls idx ci j) (hm : Fm ci j) (ho : Ob n a ci) (hty : tyF ci j = .int) (kk : ∀ I', I' = up I a j x → GG Δ mi Γ n k c (I', X) (pc + 3) lv rest) : GG Δ mi Γ n k c (I, X) pc lv (.int x :: .ref (Δ.ba + a) :: rest) := g_puti hdg hf hm ho hty (kk _ rfl)
theorem g_putzN {a ci j idx : Nat} {x : Int32} (hdg : decode mi.2.1 pc = .ok (.putfield idx, 3)) (hf : Fx mi.1.cls idx ci j) (hm : Fm ci j) (ho : Ob n a ci) (hty : tyF ci j = .boolean) (hx : x = 0 ∨ x = 1) (kk : ∀ I', I' = up I a j x → GG Δ mi Γ n k c (I', X) (pc + 3) lv rest) : GG Δ mi Γ n k c (I, X) pc lv (.int x :: .ref (Δ.ba + a) :: rest) := g_putz hdg hf hm ho hty hx (kk _ rfl)
theorem g_iastN {a len : Nat} {i x : Int32} (hdg : decode mi.2.1 pc = .ok (.iastore, 1)) (ho : Ar n a .int len) (hin : vp_in i len) (kk : ∀ I', I' = up I a i.toNatClampNeg x → GG Δ mi Γ n k c (I', X) (pc + 1) lv rest) : GG Δ mi Γ n k c (I, X) pc lv (.int x :: .int i :: .ref (Δ.ba + a) :: rest) := g_iast hdg ho hin (kk _ rfl)
theorem g_iincW {σ : St} {z : Nat} {d : Int} {x w : Int32} (hdg : decode mi.2.1 pc = .ok (.iinc z d, 3)) (hv : lv[z]? = some (some (.int x))) (hn : z < mi.2.2.1) (hw : Int32.ofInt d = w) (kk : GG Δ mi Γ n k c σ (pc + 3) (ls1 lv z (.int (x + w))) rest) : GG Δ mi Γ n k c σ pc lv rest := by subst hw; exact g_iinc hdg hv hn kk
theorem g_ldc {σ : St} {idx : Nat} {v : Int32} (hdg : decode mi.2.1 pc = .ok (.ldc idx, 2)) (hw : Cond.constant mi.1.cls idx v ∈ tb) (kk : GG Δ mi Γ n k c σ (pc + 2) lv (.int v :: rest)) : GG Δ mi Γ n k c σ pc lv rest := fun ok H locs ls hP hS hl => lv_ldc ok.1 ok.2.1 ok.2.2.2.1 (ok.2.2.2.2.1 _ hw) hdg (kk ok H locs ls hP hS hl)
theorem g_ldcw {σ : St} {idx : Nat} {v : Int32} (hdg : decode mi.2.1 pc = .ok (.ldc_w idx, 3)) (hw : Cond.constant mi.1.cls idx v ∈ tb) (kk : GG Δ mi Γ n k c σ (pc + 3) lv (.int v :: rest)) : GG Δ mi Γ n k c σ pc lv rest := fun ok H locs ls hP hS hl => lv_ldcw ok.1 ok.2.1 ok.2.2.2.1 (ok.2.2.2.2.1 _ hw) hdg (kk ok H locs ls hP hS hl)
theorem g_ldc2 {σ : St} {idx : Nat} {v : Int64} (hdg : decode mi.2.1 pc = .ok (.ldc2_w idx, 3)) (hw : Cond.constantLong mi.1.cls idx v ∈ tb) (kk : GG Δ mi Γ n k c σ (pc + 3) lv (.long v :: rest)) : GG Δ mi Γ n k c σ pc lv rest := fun ok H locs ls hP hS hl => lv_ldc2 ok.1 ok.2.1 ok.2.2.2.1 (ok.2.2.2.2.1 _ hw) hdg (kk ok H locs ls hP hS hl)
end Named
theorem c_Rdr_85 : Cond.constantLong "WardEngine$Reader" 85 (32) ∈ tb := tk1 99 rfl rfl
theorem c_Prd_107 : Cond.constant "WardEngine$PolicyReader" 107 (32768) ∈ tb := tk3 199 rfl rfl
theorem c_Prd_108 : Cond.constant "WardEngine$PolicyReader" 108 (65536) ∈ tb := tk3 200 rfl rfl
theorem c_Img_100 : Cond.constant "WardEngine$ImageReader" 100 (-9999999) ∈ tb := tk4 7 rfl rfl
theorem c_Img_101 : Cond.constant "WardEngine$ImageReader" 101 (9999999) ∈ tb := tk4 8 rfl rfl
theorem c_Pol_44 : Cond.constant "WardEngine$Policy" 44 (98304) ∈ tb := tk6 164 rfl rfl
theorem c_Mch_113 : Cond.constant "WardEngine$Machine" 113 (1000000) ∈ tb := tk6 196 rfl rfl
theorem c_Mod_132 : Cond.constantLong "WardEngineModel" 132 (667688) ∈ tb := tk7 211 rfl rfl
theorem c_Mod_134 : Cond.constantLong "WardEngineModel" 134 (702282316259) ∈ tb := tk7 212 rfl rfl
theorem c_Mod_136 : Cond.constantLong "WardEngineModel" 136 (186861) ∈ tb := tk7 213 rfl rfl
theorem c_Mod_138 : Cond.constantLong "WardEngineModel" 138 (4225) ∈ tb := tk7 214 rfl rfl
theorem c_Mod_140 : Cond.constantLong "WardEngineModel" 140 (690469079731) ∈ tb := tk7 215 rfl rfl
theorem c_Mod_142 : Cond.constantLong "WardEngineModel" 142 (872425337517) ∈ tb := tk7 216 rfl rfl
theorem c_Mod_144 : Cond.constantLong "WardEngineModel" 144 (4545) ∈ tb := tk7 217 rfl rfl
theorem c_Mod_146 : Cond.constantLong "WardEngineModel" 146 (591) ∈ tb := tk7 218 rfl rfl
theorem c_Mod_148 : Cond.constantLong "WardEngineModel" 148 (18936) ∈ tb := tk7 219 rfl rfl
theorem c_Mod_150 : Cond.constantLong "WardEngineModel" 150 (24621218) ∈ tb := tk7 220 rfl rfl
theorem c_Mod_152 : Cond.constantLong "WardEngineModel" 152 (175404) ∈ tb := tk7 221 rfl rfl
theorem c_Mod_154 : Cond.constantLong "WardEngineModel" 154 (132588) ∈ tb := tk7 222 rfl rfl
theorem c_Mod_156 : Cond.constantLong "WardEngineModel" 156 (5848723) ∈ tb := tk7 223 rfl rfl
theorem c_Mod_158 : Cond.constantLong "WardEngineModel" 158 (538282) ∈ tb := tk7 224 rfl rfl
theorem c_Mod_160 : Cond.constantLong "WardEngineModel" 160 (272041538) ∈ tb := tk7 225 rfl rfl
theorem c_Mod_162 : Cond.constantLong "WardEngineModel" 162 (487) ∈ tb := tk7 226 rfl rfl
theorem c_Mod_164 : Cond.constantLong "WardEngineModel" 164 (375084) ∈ tb := tk7 227 rfl rfl
theorem c_Mod_166 : Cond.constantLong "WardEngineModel" 166 (21167) ∈ tb := tk7 228 rfl rfl
theorem c_Mod_168 : Cond.constantLong "WardEngineModel" 168 (457) ∈ tb := tk7 229 rfl rfl
theorem c_Mod_170 : Cond.constantLong "WardEngineModel" 170 (175149) ∈ tb := tk7 230 rfl rfl
theorem c_Mod_172 : Cond.constantLong "WardEngineModel" 172 (540228) ∈ tb := tk7 231 rfl rfl
theorem c_Mod_174 : Cond.constantLong "WardEngineModel" 174 (378925) ∈ tb := tk7 232 rfl rfl
theorem c_Mod_176 : Cond.constantLong "WardEngineModel" 176 (112) ∈ tb := tk7 233 rfl rfl
theorem c_Mod_178 : Cond.constantLong "WardEngineModel" 178 (2) ∈ tb := tk7 234 rfl rfl
theorem c_Mod_180 : Cond.constantLong "WardEngineModel" 180 (3) ∈ tb := tk7 235 rfl rfl
theorem c_Mod_182 : Cond.constantLong "WardEngineModel" 182 (54) ∈ tb := tk7 236 rfl rfl
theorem c_Mod_184 : Cond.constantLong "WardEngineModel" 184 (86) ∈ tb := tk7 237 rfl rfl
theorem c_Mod_186 : Cond.constantLong "WardEngineModel" 186 (118) ∈ tb := tk7 238 rfl rfl
theorem c_Mod_188 : Cond.constantLong "WardEngineModel" 188 (23) ∈ tb := tk7 239 rfl rfl
theorem c_Mod_190 : Cond.constantLong "WardEngineModel" 190 (15) ∈ tb := tk8 0 rfl rfl
theorem c_Mod_192 : Cond.constantLong "WardEngineModel" 192 (9) ∈ tb := tk8 1 rfl rfl
theorem c_Mod_194 : Cond.constantLong "WardEngineModel" 194 (14) ∈ tb := tk8 2 rfl rfl
theorem c_Mod_196 : Cond.constantLong "WardEngineModel" 196 (168419) ∈ tb := tk8 3 rfl rfl
theorem c_Mod_198 : Cond.constantLong "WardEngineModel" 198 (187144354) ∈ tb := tk8 4 rfl rfl
theorem c_Mod_200 : Cond.constantLong "WardEngineModel" 200 (18912643) ∈ tb := tk8 5 rfl rfl
theorem c_Mod_202 : Cond.constantLong "WardEngineModel" 202 (9016902) ∈ tb := tk8 6 rfl rfl
theorem c_Mod_204 : Cond.constantLong "WardEngineModel" 204 (136366) ∈ tb := tk8 7 rfl rfl
theorem c_Mod_206 : Cond.constantLong "WardEngineModel" 206 (7220) ∈ tb := tk8 8 rfl rfl
theorem c_Mod_208 : Cond.constantLong "WardEngineModel" 208 (680110) ∈ tb := tk8 9 rfl rfl
theorem c_Mod_210 : Cond.constantLong "WardEngineModel" 210 (19053295) ∈ tb := tk8 10 rfl rfl
theorem c_Mod_212 : Cond.constantLong "WardEngineModel" 212 (599088) ∈ tb := tk8 11 rfl rfl
theorem c_Mod_214 : Cond.constantLong "WardEngineModel" 214 (21612838) ∈ tb := tk8 12 rfl rfl
theorem c_Mod_216 : Cond.constantLong "WardEngineModel" 216 (149392563) ∈ tb := tk8 13 rfl rfl
theorem c_Mod_218 : Cond.constantLong "WardEngineModel" 218 (183330) ∈ tb := tk8 14 rfl rfl
theorem c_Mod_220 : Cond.constantLong "WardEngineModel" 220 (641) ∈ tb := tk8 15 rfl rfl
theorem c_Mod_222 : Cond.constantLong "WardEngineModel" 222 (150007) ∈ tb := tk8 16 rfl rfl
theorem c_Mod_224 : Cond.constantLong "WardEngineModel" 224 (143528) ∈ tb := tk8 17 rfl rfl
theorem c_Mod_226 : Cond.constantLong "WardEngineModel" 226 (624535313586) ∈ tb := tk8 18 rfl rfl
theorem c_Mod_228 : Cond.constantLong "WardEngineModel" 228 (21676489) ∈ tb := tk8 19 rfl rfl
theorem c_Mod_230 : Cond.constantLong "WardEngineModel" 230 (178670) ∈ tb := tk8 20 rfl rfl
theorem c_Mod_258 : Cond.constantLong "WardEngineModel" 258 (31) ∈ tb := tk9 97 rfl rfl
theorem c_Mod_340 : Cond.constant "WardEngineModel" 340 (32768) ∈ tb := tk9 181 rfl rfl
theorem c_Mod_341 : Cond.constant "WardEngineModel" 341 (65536) ∈ tb := tk9 182 rfl rfl
theorem c_Mod_427 : Cond.constant "WardEngineModel" 427 (-9999999) ∈ tb := tk9 226 rfl rfl
theorem c_Mod_428 : Cond.constant "WardEngineModel" 428 (9999999) ∈ tb := tk9 227 rfl rfl
theorem c_Mod_466 : Cond.constantLong "WardEngineModel" 466 (32) ∈ tb := tk10 20 rfl rfl
theorem c_Mod_472 : Cond.constantLong "WardEngineModel" 472 (96) ∈ tb := tk10 25 rfl rfl
theorem c_Mod_474 : Cond.constantLong "WardEngineModel" 474 (45) ∈ tb := tk10 30 rfl rfl
theorem c_Mod_476 : Cond.constantLong "WardEngineModel" 476 (10) ∈ tb := tk10 31 rfl rfl
theorem c_Mod_478 : Cond.constantLong "WardEngineModel" 478 (48) ∈ tb := tk10 32 rfl rfl
theorem c_Mod_513 : Cond.constant "WardEngineModel" 513 (1000000) ∈ tb := tk10 88 rfl rfl
