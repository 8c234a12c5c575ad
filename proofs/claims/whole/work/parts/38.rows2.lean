/-! more rows that name what they store: chars, rows filled, rows copied -/
def fil (I : IM) (a N : Nat) (v : Int32) : IM := upA I a (fun j => if j < N then v else I a j)
def cpy (I : IM) (a b p q m : Nat) : IM := upA I b (va_cpy (I a) (I b) p q m)
def cnar (x : Int32) : Int32 := vp_nar .char x
section Rows2
variable {Δ : Dx} {mi : MI} {Γ : Cx} {n k c : Nat} {I : IM} {X : Lx} {pc : Nat} {lv : List (Option Value)} {rest : List Value} {idx : Nat}
theorem g_castN {a len : Nat} {i x : Int32} (hdg : decode mi.2.1 pc = .ok (.castore, 1)) (ho : Ar n a .char len) (hin : vp_in i len) (kk : ∀ I', I' = up I a i.toNatClampNeg (cnar x) → GG Δ mi Γ n k c (I', X) (pc + 1) lv rest) : GG Δ mi Γ n k c (I, X) pc lv (.int x :: .int i :: .ref (Δ.ba + a) :: rest) := fun ok H locs ls hP hS hl => by
  have hws : (Δ.W n (I, X))[a]? = some (Δ.ba + a, .inl (Δ.2.2.1 .char, len, .inl (I a))) := by rw [wsO_at ho.1, cellO_ar ho.2 rfl]
  have hset : (Δ.W n (I, X)).set a (Δ.ba + a, .inl (Δ.2.2.1 .char, len, .inl (upd (I a) i.toNatClampNeg (vp_nar .char x)))) = Δ.W n (stI (I, X) a i.toNatClampNeg (cnar x)) := by
    have e : (Sum.inl (Δ.2.2.1 .char, len, Sum.inl (upd (I a) i.toNatClampNeg (vp_nar .char x))) : va_E) = cellO Δ.2.2.1 (stI (I, X) a i.toNatClampNeg (cnar x)) a := by
      rw [cellO_ar ho.2 rfl]
      show _ = Sum.inl (Δ.2.2.1 .char, len, Sum.inl (upA I a (upd (I a) i.toNatClampNeg (vp_nar .char x)) a))
      unfold upA
      rw [if_pos rfl]
    rw [e]
    exact wsO_set ho.1 (fun b h => cellO_I h)
  refine va_cast (D := Δ.2.1) (cl := vcl) (tys := tysO Δ.2.2.1) ok.1 ok.2.1 ok.2.2.2.2.2.2.2.1.1 hP wsO_D hS a 2 hws rfl hin hdg (fun H1 locs1 hP1 _ hS1 => ?_)
  rw [hset] at hP1
  exact kk _ rfl ok H1 locs1 ls hP1 hS1 hl
theorem g_mminI {σ : St} {x y : Int32} (hdg : decode mi.2.1 pc = .ok (.invokestatic idx, 3)) (hl0 : Cond.methodLink mi.1.cls idx Lib.Math.min.name ∈ tb) (h1 : 1 ≤ Γ.k) (hw : (rest.map fun v => v.category).sum ≤ 8) (hc : k ≤ Γ.R.cells) (hs : c ≤ Γ.R.slots) (kk : GG Δ mi Γ n k c σ (pc + 3) lv (.int (minI x y) :: rest)) : GG Δ mi Γ n k c σ pc lv (.int y :: .int x :: rest) := g_mmin hdg hl0 h1 hw hc hs kk
theorem g_copyN {a b la lb : Nat} {sp dp m : Int32} (hdg : decode mi.2.1 pc = .ok (.invokestatic idx, 3)) (hl0 : Cond.methodLink mi.1.cls idx arraycopyName ∈ tb) (h1 : 1 ≤ Γ.k) (hw : (rest.map fun v => v.category).sum ≤ 8) (ha : Ar n a .int la) (hb0 : Ar n b .int lb) (hs0 : ¬ sp < 0) (hd0 : ¬ dp < 0) (hm0 : ¬ m < 0) (hsm : sp.toNatClampNeg + m.toNatClampNeg ≤ la) (hdm : dp.toNatClampNeg + m.toNatClampNeg ≤ lb)
    (kk : ∀ I', I' = cpy I a b sp.toNatClampNeg dp.toNatClampNeg m.toNatClampNeg → GG Δ mi Γ n k c (I', X) (pc + 3) lv rest) : GG Δ mi Γ n k c (I, X) pc lv (.int m :: .int dp :: .ref (Δ.ba + b) :: .int sp :: .ref (Δ.ba + a) :: rest) := g_copy hdg hl0 h1 hw ha hb0 hs0 hd0 hm0 hsm hdm (kk _ rfl)
end Rows2
