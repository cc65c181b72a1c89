/-! FORMULAS: their shape in the memory, their tokens, likeness -/
abbrev Tk : Type := Int32 × Int32 × Int32
def fa (μ : jM) (f j : Nat) : Nat := (jrv μ f j).getD 0
/-- a formula's shape, behind D -/
def FS (μ : jM) (D f : Nat) : Prop :=
  jk μ f = 5 ∧ D ≤ f ∧ (∀ j, j < 4 → jrv μ f j = some (fa μ f j) ∧ D ≤ fa μ f j ∧ jk μ (fa μ f j) = 20) ∧
  jl μ (fa μ f 1) = jl μ (fa μ f 0) ∧ jl μ (fa μ f 2) = jl μ (fa μ f 0) ∧ jl μ (fa μ f 0) ≤ 40 ∧ jl μ (fa μ f 3) ≤ 40
def ftk (μ : jM) (f : Nat) : List Tk := (List.range (jl μ (fa μ f 0))).map fun i => (jiv μ (fa μ f 0) i, jiv μ (fa μ f 1) i, jiv μ (fa μ f 2) i)
def ford (μ : jM) (f : Nat) : List Int32 := (List.range (jl μ (fa μ f 3))).map (jiv μ (fa μ f 3))
/-- a ref to no key has no column -/
def tcan (t : Tk) : Tk := if t.1 = N 114 ∧ t.2.2 = N 0 then (t.1, N 0, N 0) else t
/-- the tokens of a cell's formula -/
def dF (μ : jM) : Option Nat → List Tk
  | none => []
  | some f => (ftk μ f).map tcan
/-- formulas as trees, in a tree type of the core: natCast digits, var a ref (8 times its key, twice its column, 1 if it stays), num a range, pow a bracket -/
abbrev Ex : Type := Lean.Grind.CommRing.Expr
def rT (i : Nat) : Tk := (if i % 2 = 1 then N 115 else N 114, N (i / 2 % 4), N (i / 8))
def wT (w : Nat) : Int32 := if w = 0 then N 116 else if w = 1 then N 109 else if w = 2 then N 108 else N 110
def rK (i : Nat) : Prop := i / 8 < 100 ∧ i / 2 % 4 < 3 ∧ (i % 2 = 1 → 1 ≤ i / 8)
def tks : Ex → List Tk
  | .natCast v => [(N 48, N v, N 0)]
  | .var i => [rT i]
  | .neg e => (N 103, N 0, N 0) :: tks e
  | .pow e _ => (N 40, N 0, N 0) :: (tks e ++ [(N 41, N 0, N 0)])
  | .num k => [(wT (k.toNat / 1000000), N 0, N 0), (N 40, N 0, N 0), rT (k.toNat / 1000 % 1000), (N 58, N 0, N 0), rT (k.toNat % 1000), (N 41, N 0, N 0)]
  | .add a b => tks a ++ (N 43, N 0, N 0) :: tks b
  | .sub a b => tks a ++ (N 45, N 0, N 0) :: tks b
  | .mul a b => tks a ++ (N 42, N 0, N 0) :: tks b
  | .intCast _ => []
/-- in which order a tree is worked out, from place b on -/
def ords : Nat → Ex → List Nat
  | b, .natCast _ => [b]
  | b, .var _ => [b]
  | b, .neg e => ords (b + 1) e ++ [b]
  | b, .pow e _ => ords (b + 1) e
  | b, .num _ => [b]
  | b, .add x y => ords b x ++ (ords (b + (tks x).length + 1) y ++ [b + (tks x).length])
  | b, .sub x y => ords b x ++ (ords (b + (tks x).length + 1) y ++ [b + (tks x).length])
  | b, .mul x y => ords b x ++ (ords (b + (tks x).length + 1) y ++ [b + (tks x).length])
  | _, .intCast _ => []
/-- whether a tree is a ONE (0), a PART (1), a SUM (2) -/
def lv : Nat → Ex → Prop
  | _, .natCast v => v < 1000000
  | _, .var i => rK i
  | _, .neg e => lv 0 e
  | _, .pow e k => k = 0 ∧ lv 2 e
  | _, .num k => 0 ≤ k ∧ k.toNat / 1000000 < 4 ∧ rK (k.toNat / 1000 % 1000) ∧ rK (k.toNat % 1000)
  | u, .add a b => 2 ≤ u ∧ lv 2 a ∧ lv 1 b
  | u, .sub a b => 2 ≤ u ∧ lv 2 a ∧ lv 1 b
  | u, .mul a b => 1 ≤ u ∧ lv 1 a ∧ lv 0 b
  | _, .intCast _ => False
/-- how deep its minus signs and brackets are -/
def nst : Ex → Nat
  | .neg e => nst e + 1
  | .pow e _ => nst e + 1
  | .add a b => max (nst a) (nst b)
  | .sub a b => max (nst a) (nst b)
  | .mul a b => max (nst a) (nst b)
  | _ => 0
/-- how many digits -/
def nd (v : Nat) : Nat := if v < 10 then 1 else if v < 100 then 2 else if v < 1000 then 3 else if v < 10000 then 4 else if v < 100000 then 5 else 6
/-- how wide a token is, printed -/
def tw (t : Tk) : Nat := if t.1 = N 48 then nd t.2.1.toNatClampNeg else if t.1 = N 114 then (if t.2.2 = N 0 then 1 else 2) else if t.1 = N 115 then 3 else if t.1 = N 116 ∨ t.1 = N 108 then 5 else if t.1 = N 109 ∨ t.1 = N 110 then 4 else 1
def FW (T : List Tk) (O : List Int32) : Prop := ∃ e, lv 2 e ∧ nst e ≤ 4 ∧ T = tks e ∧ O = (ords 0 e).map N ∧ (T.map tw).sum ≤ 39
/-- what a cell may hold -/
def cellOK (μ : jM) (D : Nat) (x : RC (Option Nat)) : Prop :=
  (x.1 = N 0 ∧ x.2.1 = N 0 ∧ x.2.2.1 = none) ∨ (x.1 = N 1 ∧ x.2.2.1 = none) ∨ (x.1 = N 2 ∧ x.2.1 = N 0 ∧ ∃ f, x.2.2.1 = some f ∧ FS μ D f ∧ FW (ftk μ f) (ford μ f))
/-- contents alike -/
def alC (μ : jM) (x y : RC (Option Nat)) : Prop := x.1 = y.1 ∧ x.2.1 = y.2.1 ∧ dF μ x.2.2.1 = dF μ y.2.2.1
def bN (b : Bool) : Int32 := if b then N 1 else N 0
noncomputable def pN (p : Prop) : Int32 := haveI := Classical.propDecidable p; if p then N 1 else N 0
theorem pN_pos {p : Prop} (h : p) : pN p = N 1 := by unfold pN; exact if_pos h
theorem pN_neg {p : Prop} (h : ¬ p) : pN p = N 0 := by unfold pN; exact if_neg h
theorem pN_congr {p q : Prop} (h : p ↔ q) : pN p = pN q := by rw [propext h]
theorem pN_jrf {p : Prop} : jrf 4 (pN p) = true := by
  by_cases h : p
  · rw [pN_pos h]; rfl
  · rw [pN_neg h]; rfl
theorem pN_eq0 {p : Prop} : (pN p = N 0) ↔ ¬ p := by
  by_cases h : p
  · rw [pN_pos h]; exact ⟨fun e => absurd e (by decide), fun g => absurd h g⟩
  · rw [pN_neg h]; exact ⟨fun _ => h, fun _ => rfl⟩
theorem tcan_eq {x y : Tk} : tcan x = tcan y ↔ x.1 = y.1 ∧ x.2.2 = y.2.2 ∧ ((x.1 = N 114 ∧ x.2.2 = N 0) ∨ x.2.1 = y.2.1) := by
  obtain ⟨x1, x2, x3⟩ := x
  obtain ⟨y1, y2, y3⟩ := y
  unfold tcan
  simp only
  constructor
  · intro h
    split at h
    · rename_i hx
      split at h
      · rename_i hy
        exact ⟨hx.1.trans hy.1.symm, hx.2.trans hy.2.symm, Or.inl hx⟩
      · rename_i hy
        simp only [Prod.mk.injEq] at h
        exfalso; exact hy ⟨by rw [← h.1]; exact hx.1, h.2.2.symm⟩
    · rename_i hx
      split at h
      · rename_i hy
        simp only [Prod.mk.injEq] at h
        exfalso; exact hx ⟨by rw [h.1]; exact hy.1, h.2.2⟩
      · simp only [Prod.mk.injEq] at h
        exact ⟨h.1, h.2.2, Or.inr h.2.1⟩
  · rintro ⟨rfl, rfl, h | h⟩
    · rw [if_pos h, if_pos h]
    · rw [h]
theorem FS.r {μ : jM} {D f j : Nat} (h : FS μ D f) (hj : j < 4) : jrv μ f j = some (fa μ f j) := (h.2.2.1 j hj).1
theorem FS.k {μ : jM} {D f j : Nat} (h : FS μ D f) (hj : j < 4) : jk μ (fa μ f j) = 20 := (h.2.2.1 j hj).2.2
section FORM
variable {μ μ' : jM} {D f f' d g h : Nat}
theorem len_fT : (ftk μ f).length = jl μ (fa μ f 0) := by simp [ftk]
theorem fT_get {i : Nat} (hi : i < jl μ (fa μ f 0)) : (ftk μ f)[i]? = some (jiv μ (fa μ f 0) i, jiv μ (fa μ f 1) i, jiv μ (fa μ f 2) i) := by
  unfold ftk
  rw [List.getElem?_map, List.getElem?_range hi]; rfl
theorem x_isTokenAlike {i : Nat} (hs : FS μ D f) (hs' : FS μ D f') (hi : i < jl μ (fa μ f 0)) (hi' : i < jl μ (fa μ f' 0)) : jC d 86 [.ref f, .ref f', .int (N i)] μ = some (some (.int (pN (tcan (jiv μ (fa μ f 0) i, jiv μ (fa μ f 1) i, jiv μ (fa μ f 2) i) = tcan (jiv μ (fa μ f' 0) i, jiv μ (fa μ f' 1) i, jiv μ (fa μ f' 2) i)))), μ) := by
  have l1 := hs.2.2.2.2.2.1
  have bi : i < 2147483648 := by omega
  have z0 : (0 : Nat) < 4 := by decide
  have z1 : (1 : Nat) < 4 := by decide
  have z2 : (2 : Nat) < 4 := by decide
  rw [jC_run (by decide)]
  show jR d 86 0 [.ref f, .ref f', .int (N i), .retAddr 0] [] μ = _
  rw [pN_congr tcan_eq]
  simp only [b86_0, b86_30, b86_56, b86_57, b86_77, b86_82, gI5, gR5, pI5, pR5, rv5, aI_eq, aB_eq, aR_eq, sI_eq, sB_eq, sR_eq, Option.bind_some, Option.bind_none, if_true, if_false, true_or, or_true, false_or, or_false, true_and, and_true, false_and, and_false, decide_eq_true_eq, decide_true, decide_false, eq_self, not_true_eq_false, not_false_eq_true, jfit0, N_lit, N_add, N_mul, NEG_eq, pl_none, pl_some, rf_some, rf_none, jun_ref, jun_null, ir_ref, ir_null, jr_rf, jun_rf, Option.toList_some, Option.toList_none, List.nil_append, List.cons_append, hs.1, hs'.1, hs.r z0, hs.r z1, hs.r z2, hs'.r z0, hs'.r z1, hs'.r z2, hs.k z0, hs.k z1, hs.k z2, hs'.k z0, hs'.k z1, hs'.k z2, jinb_N bi, hi, hi', hs.2.2.2.1, hs.2.2.2.2.1, hs'.2.2.2.1, hs'.2.2.2.2.1, N_nat bi, show jrf 4 (N 0) = true from rfl, show jrf 4 (N 1) = true from rfl, n10]
  generalize jiv μ (fa μ f 0) i = x1
  generalize jiv μ (fa μ f 1) i = x2
  generalize jiv μ (fa μ f 2) i = x3
  generalize jiv μ (fa μ f' 0) i = y1
  generalize jiv μ (fa μ f' 1) i = y2
  generalize jiv μ (fa μ f' 2) i = y3
  by_cases a1 : x1 = y1
  · by_cases a2 : x3 = y3
    · by_cases a3 : x1 = N 114
      · by_cases a4 : x3 = N 0
        · rw [pN_pos ⟨a1, a2, Or.inl ⟨a3, a4⟩⟩]
          simp only [← a1, ← a2, a3, a4, if_true]
        · by_cases a5 : x2 = y2
          · rw [pN_pos ⟨a1, a2, Or.inr a5⟩]
            simp only [← a1, ← a2, a3, a4, a5, if_true, if_false]
          · rw [pN_neg (fun g => g.2.2.elim (fun q => a4 q.2) a5)]
            simp only [← a1, ← a2, a3, a4, a5, if_true, if_false]
      · by_cases a5 : x2 = y2
        · rw [pN_pos ⟨a1, a2, Or.inr a5⟩]
          simp only [← a1, ← a2, a3, a5, if_true, if_false]
        · rw [pN_neg (fun g => g.2.2.elim (fun q => a3 q.1) a5)]
          simp only [← a1, ← a2, a3, a5, if_true, if_false]
    · rw [pN_neg (fun g => a2 g.2.1)]
      simp only [a1, a2, if_true, if_false]
  · rw [pN_neg (fun g => a1 g.1)]
    simp only [a1, if_false]
theorem x_fAlike (hs : FS μ D f) (hs' : FS μ D f') : jC (d + 1) 85 [.ref f, .ref f'] μ = some (some (.int (pN ((ftk μ f).map tcan = (ftk μ f').map tcan))), μ) := by
  have l1 := hs.2.2.2.2.2.1
  have l2 := hs'.2.2.2.2.2.1
  have z0 : (0 : Nat) < 4 := by decide
  have b1 : jl μ (fa μ f 0) < 2147483648 := by omega
  have b2 : jl μ (fa μ f' 0) < 2147483648 := by omega
  rw [jC_run (by decide)]
  show jR (d + 1) 85 0 [.ref f, .ref f', .retAddr 0] [] μ = _
  simp only [b85_0, gI5, gR5, pI5, pR5, rv5, aI_eq, aB_eq, aR_eq, sI_eq, sB_eq, sR_eq, Option.bind_some, Option.bind_none, if_true, if_false, true_or, or_true, false_or, or_false, true_and, and_true, false_and, and_false, decide_eq_true_eq, decide_true, decide_false, eq_self, not_true_eq_false, not_false_eq_true, jfit0, N_lit, N_add, N_mul, NEG_eq, pl_none, pl_some, rf_some, rf_none, jun_ref, jun_null, ir_ref, ir_null, jr_rf, jun_rf, Option.toList_some, Option.toList_none, List.nil_append, List.cons_append, hs.1, hs'.1, hs.r z0, hs'.r z0, alen_of (hs.k z0) (by decide), alen_of (hs'.k z0) (by decide), N_inj b1 b2]
  by_cases e : jl μ (fa μ f 0) = jl μ (fa μ f' 0)
  · rw [if_pos e]
    have loop : ∀ k i, i + k = jl μ (fa μ f 0) → (∀ j, j < i → ((ftk μ f).map tcan)[j]? = ((ftk μ f').map tcan)[j]?) → jR (d + 1) 85 17 [.ref f, .ref f', .int (N i)] [] μ = some (some (.int (pN ((ftk μ f).map tcan = (ftk μ f').map tcan))), μ) := by
      intro k
      induction k with
      | zero =>
        intro i hi hj
        have bi : i < 2147483648 := by omega
        rw [b85_17 (h1 := ir_ref)]
        simp only [gI5, gR5, pI5, pR5, rv5, aI_eq, aB_eq, aR_eq, sI_eq, sB_eq, sR_eq, Option.bind_some, Option.bind_none, if_true, if_false, true_or, or_true, false_or, or_false, true_and, and_true, false_and, and_false, decide_eq_true_eq, decide_true, decide_false, eq_self, not_true_eq_false, not_false_eq_true, jfit0, N_lit, N_add, N_mul, NEG_eq, pl_none, pl_some, rf_some, rf_none, jun_ref, jun_null, ir_ref, ir_null, jr_rf, jun_rf, Option.toList_some, Option.toList_none, List.nil_append, List.cons_append, hs.1, hs.r z0, alen_of (hs.k z0) (by decide), N_lt bi b1, show ¬ i < jl μ (fa μ f 0) by omega]
        rw [pN_pos]
        apply List.ext_getElem?
        intro j
        by_cases hji : j < i
        · exact hj j hji
        · rw [List.getElem?_eq_none (by rw [List.length_map, len_fT]; omega), List.getElem?_eq_none (by rw [List.length_map, len_fT]; omega)]
      | succ k ih =>
        intro i hi hj
        have bi : i < 2147483648 := by omega
        have hi2 : i < jl μ (fa μ f 0) := by omega
        have ht := x_isTokenAlike (d := d) hs hs' hi2 (by omega)
        rw [b85_17 (h1 := ir_ref)]
        simp only [gI5, gR5, pI5, pR5, rv5, aI_eq, aB_eq, aR_eq, sI_eq, sB_eq, sR_eq, Option.bind_some, Option.bind_none, if_true, if_false, true_or, or_true, false_or, or_false, true_and, and_true, false_and, and_false, decide_eq_true_eq, decide_true, decide_false, eq_self, not_true_eq_false, not_false_eq_true, jfit0, N_lit, N_add, N_mul, NEG_eq, pl_none, pl_some, rf_some, rf_none, jun_ref, jun_null, ir_ref, ir_null, jr_rf, jun_rf, Option.toList_some, Option.toList_none, List.nil_append, List.cons_append, hs.1, hs.r z0, alen_of (hs.k z0) (by decide), N_lt bi b1, hi2, ht, b85_32]
        by_cases ha : tcan (jiv μ (fa μ f 0) i, jiv μ (fa μ f 1) i, jiv μ (fa μ f 2) i) = tcan (jiv μ (fa μ f' 0) i, jiv μ (fa μ f' 1) i, jiv μ (fa μ f' 2) i)
        · rw [if_neg (by rw [pN_eq0]; exact fun g => g ha)]
          refine ih (i + 1) (by omega) (fun j hj2 => ?_)
          by_cases e3 : j = i
          · rw [e3, List.getElem?_map, List.getElem?_map, fT_get hi2, fT_get (by omega)]
            exact congrArg some ha
          · exact hj j (by omega)
        · rw [if_pos (pN_eq0.mpr ha), pN_neg]
          intro g
          have g2 := congrArg (fun l => l[i]?) g
          simp only [List.getElem?_map, fT_get hi2, fT_get (show i < jl μ (fa μ f' 0) by omega), Option.map_some, Option.some.injEq] at g2
          exact ha g2
    exact loop (jl μ (fa μ f 0)) 0 (by omega) (fun j hj => absurd hj (Nat.not_lt_zero j))
  · rw [if_neg e, pN_neg]
    intro g
    have g2 := congrArg List.length g
    rw [List.length_map, List.length_map, len_fT, len_fT] at g2
    exact e g2
theorem x_isAlike {p q : Option Nat} {c : Nat} (hs : Gs μ g) (hn : Gn μ g) (hs' : Gs μ h) (hn' : Gn μ h) (hp : ∀ i, p = some i → i < 1000) (hq : ∀ i, q = some i → i < 1000) (hc : c < 3) (hx : cellOK μ D (cO none (rG μ (xA g)) p c)) (hy : cellOK μ D (cO none (rG μ (xA h)) q c)) : jC (d + 2) 107 [.ref g, .int (pl p), .int (N c), .ref h, .int (pl q)] μ = some (some (.int (pN (alC μ (cO none (rG μ (xA g)) p c) (cO none (rG μ (xA h)) q c)))), μ) := by
  rw [jC_run (by decide)]
  show jR (d + 2) 107 0 [.ref g, .int (pl p), .int (N c), .ref h, .int (pl q), .retAddr 0, .retAddr 0, .retAddr 0] [] μ = _
  have t1 := x_kindAt (d := d) hs hn hp hc
  have t2 := x_kindAt (d := d) hs' hn' hq hc
  have t3 := x_numberAt (d := d) hs hn hp hc
  have t4 := x_numberAt (d := d) hs' hn' hq hc
  have t5 := x_formulaAt (d := d) hs hn hp hc
  have t6 := x_formulaAt (d := d) hs' hn' hq hc
  simp only [b107_0, b107_6, gI6, gR6, pI6, pR6, rv6, aI_eq, aB_eq, aR_eq, sI_eq, sB_eq, sR_eq, Option.bind_some, Option.bind_none, if_true, if_false, true_or, or_true, false_or, or_false, true_and, and_true, false_and, and_false, decide_eq_true_eq, decide_true, decide_false, eq_self, not_true_eq_false, not_false_eq_true, jfit0, N_lit, N_add, N_mul, NEG_eq, pl_none, pl_some, rf_some, rf_none, jun_ref, jun_null, ir_ref, ir_null, jr_rf, jun_rf, Option.toList_some, Option.toList_none, List.nil_append, List.cons_append, hs.1, hs'.1, t1, t2]
  generalize cO none (rG μ (xA g)) p c = x at *
  generalize cO none (rG μ (xA h)) q c = y at *
  obtain ⟨x1, x2, x3, x4⟩ := x
  obtain ⟨y1, y2, y3, y4⟩ := y
  have fin : ∀ {u0 u1 u2 u3 u4 u5 u6 u7 : Value}, jR (d + 2) 107 41 [u0, u1, u2, u3, u4, u5, u6, u7] [.int y2, .int x2] μ = some (some (.int (pN (x2 = y2))), μ) := by
    intro u0 u1 u2 u3 u4 u5 u6 u7
    simp only [b107_41, b107_49, aI_eq, aB_eq, aR_eq, sI_eq, sB_eq, sR_eq, Option.bind_some, Option.bind_none, if_true, if_false, true_or, or_true, false_or, or_false, true_and, and_true, false_and, and_false, decide_eq_true_eq, decide_true, decide_false, eq_self, not_true_eq_false, not_false_eq_true, jfit0, N_lit, N_add, N_mul, NEG_eq, pl_none, pl_some, rf_some, rf_none, jun_ref, jun_null, ir_ref, ir_null, jr_rf, jun_rf, Option.toList_some, Option.toList_none, List.nil_append, List.cons_append, show jrf 4 (N 0) = true from rfl, show jrf 4 (N 1) = true from rfl]
    by_cases e : x2 = y2
    · rw [if_pos e, pN_pos e]
    · rw [if_neg e, pN_neg e]
  have two : x3 = none → y3 = none → x1 = y1 → pN (x2 = y2) = pN (alC μ (x1, x2, x3, x4) (y1, y2, y3, y4)) := fun e1 e2 e3 => pN_congr ⟨fun e => ⟨e3, e, by rw [show (x1, x2, x3, x4).2.2.1 = none from e1, show (y1, y2, y3, y4).2.2.1 = none from e2]⟩, fun e => e.2.1⟩
  by_cases e1 : x1 = y1
  · subst e1
    rcases hx with ⟨h1, h2, h3⟩ | ⟨h1, h3⟩ | ⟨h1, h2, f, h3, h4, h5⟩
    · have h1 : x1 = N 0 := h1
      subst h1
      rcases hy with ⟨g1, g2, g3⟩ | ⟨g1, g3⟩ | ⟨g1, g2, f', g3, g4, g5⟩
      · rw [← two h3 g3 rfl, ← fin]
        simp only [b107_17, gI6, gR6, pI6, pR6, rv6, aI_eq, aB_eq, aR_eq, sI_eq, sB_eq, sR_eq, Option.bind_some, Option.bind_none, if_true, if_false, true_or, or_true, false_or, or_false, true_and, and_true, false_and, and_false, decide_eq_true_eq, decide_true, decide_false, eq_self, not_true_eq_false, not_false_eq_true, jfit0, N_lit, N_add, N_mul, NEG_eq, pl_none, pl_some, rf_some, rf_none, jun_ref, jun_null, ir_ref, ir_null, jr_rf, jun_rf, Option.toList_some, Option.toList_none, List.nil_append, List.cons_append, hs.1, n02, t3, b107_34, hs'.1, t4]
        rw [fin]
      · exact absurd g1 (by rw [show ((N 0, y2, y3, y4) : RC (Option Nat)).1 = N 0 from rfl, n01]; exact id)
      · exact absurd g1 (by rw [show ((N 0, y2, y3, y4) : RC (Option Nat)).1 = N 0 from rfl, n02]; exact id)
    · have h1 : x1 = N 1 := h1
      subst h1
      rcases hy with ⟨g1, g2, g3⟩ | ⟨g1, g3⟩ | ⟨g1, g2, f', g3, g4, g5⟩
      · exact absurd g1 (by rw [show ((N 1, y2, y3, y4) : RC (Option Nat)).1 = N 1 from rfl, n10]; exact id)
      · rw [← two h3 g3 rfl, ← fin]
        simp only [b107_17, gI6, gR6, pI6, pR6, rv6, aI_eq, aB_eq, aR_eq, sI_eq, sB_eq, sR_eq, Option.bind_some, Option.bind_none, if_true, if_false, true_or, or_true, false_or, or_false, true_and, and_true, false_and, and_false, decide_eq_true_eq, decide_true, decide_false, eq_self, not_true_eq_false, not_false_eq_true, jfit0, N_lit, N_add, N_mul, NEG_eq, pl_none, pl_some, rf_some, rf_none, jun_ref, jun_null, ir_ref, ir_null, jr_rf, jun_rf, Option.toList_some, Option.toList_none, List.nil_append, List.cons_append, hs.1, n12, t3, b107_34, hs'.1, t4]
        rw [fin]
      · exact absurd g1 (by rw [show ((N 1, y2, y3, y4) : RC (Option Nat)).1 = N 1 from rfl, n12]; exact id)
    · have h1 : x1 = N 2 := h1
      subst h1
      rcases hy with ⟨g1, g2, g3⟩ | ⟨g1, g3⟩ | ⟨g1, g2, f', g3, g4, g5⟩
      · exact absurd g1 (by rw [show ((N 2, y2, y3, y4) : RC (Option Nat)).1 = N 2 from rfl, n20]; exact id)
      · exact absurd g1 (by rw [show ((N 2, y2, y3, y4) : RC (Option Nat)).1 = N 2 from rfl, n21]; exact id)
      · have h2 : x2 = N 0 := h2
        have g2 : y2 = N 0 := g2
        have h3 : x3 = some f := h3
        have g3 : y3 = some f' := g3
        subst h2 g2 h3 g3
        have t7 := x_fAlike (d := d) h4 g4
        simp only [rf_some] at t5 t6
        simp only [b107_17, gI6, gR6, pI6, pR6, rv6, gI5, gR5, pI5, pR5, rv5, aI_eq, aB_eq, aR_eq, sI_eq, sB_eq, sR_eq, Option.bind_some, Option.bind_none, if_true, if_false, true_or, or_true, false_or, or_false, true_and, and_true, false_and, and_false, decide_eq_true_eq, decide_true, decide_false, eq_self, not_true_eq_false, not_false_eq_true, jfit0, N_lit, N_add, N_mul, NEG_eq, pl_none, pl_some, rf_some, rf_none, jun_ref, jun_null, ir_ref, ir_null, jr_rf, jun_rf, Option.toList_some, Option.toList_none, List.nil_append, List.cons_append, hs.1, t5, b107_56, hs'.1, t6, b107_65, h4.1, t7, b107_84, b107_91, b107_92, reduceCtorEq, show jrf 4 (N 0) = true from rfl, show jrf 4 (N 1) = true from rfl]
        by_cases e : (ftk μ f).map tcan = (ftk μ f').map tcan
        · rw [if_neg (by rw [pN_eq0]; exact fun g => g e), pN_pos ⟨rfl, rfl, e⟩]
        · rw [if_pos (pN_eq0.mpr e), pN_neg (fun g => e g.2.2)]
  · have e1' : (y1 = x1) = False := eq_false (fun e => e1 e.symm)
    rw [pN_neg (fun e => e1 e.1)]
    simp only [b107_17, aI_eq, aB_eq, aR_eq, sI_eq, sB_eq, sR_eq, Option.bind_some, Option.bind_none, if_true, if_false, true_or, or_true, false_or, or_false, true_and, and_true, false_and, and_false, decide_eq_true_eq, decide_true, decide_false, eq_self, not_true_eq_false, not_false_eq_true, jfit0, N_lit, N_add, N_mul, NEG_eq, pl_none, pl_some, rf_some, rf_none, jun_ref, jun_null, ir_ref, ir_null, jr_rf, jun_rf, Option.toList_some, Option.toList_none, List.nil_append, List.cons_append, e1', e1]
end FORM
