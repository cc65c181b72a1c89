/-! THE METHODS OF Grid: reading and writing cells -/
/-- contents and notes of a place's cell -/
def lset {φ : Type} (l : List (RW φ)) (p : Option Nat) (c : Nat) (v : RC φ → RC φ) : List (RW φ) := match p with
  | none => l
  | some i => l.modify i fun w => rset w c (v (rcol w c))
def setC (μ : jM) (A : GA) (p : Option Nat) (c : Nat) (k n : Int32) (f : Option Nat) : jM := match cellO (vN μ A) p c with
  | some x => putC μ A x k n f
  | none => μ
def setT (μ : jM) (A : GA) (p : Option Nat) (c : Nat) (t : Int32) : jM := match cellO (vN μ A) p c with
  | some x => putT μ A x t
  | none => μ
theorem cellO_some {n c x : Nat} {p : Option Nat} (h : cellO n p c = some x) : ∃ i, p = some i ∧ i < n ∧ x = i * 3 + c := by
  unfold cellO at h
  cases p with
  | none => cases h
  | some i =>
    simp only [Option.bind_some] at h
    split at h
    · rename_i hi
      cases h
      exact ⟨i, rfl, hi, rfl⟩
    · cases h
theorem cellO_none {n c : Nat} {p : Option Nat} (h : cellO n p c = none) : ∀ i, p = some i → ¬ i < n := by
  intro i hi hlt
  rw [hi] at h
  unfold cellO at h
  simp only [Option.bind_some] at h
  rw [if_pos hlt] at h
  cases h
theorem modify_none {α : Type} {l : List α} {i : Nat} {f : α → α} (h : ¬ i < l.length) : l.modify i f = l := by
  apply List.ext_getElem?
  intro j
  rw [List.getElem?_modify]
  by_cases e : i = j
  · subst e
    rw [List.getElem?_eq_none (by omega)]; rfl
  · simp only [if_neg e]
    cases l[j]? <;> rfl
theorem rG_setC {μ : jM} {A : GA} {p : Option Nat} {c : Nat} {k n : Int32} {f : Option Nat} (h : Aok A) (hc : c < 3) : rG (setC μ A p c k n f) A = lset (rG μ A) p c (fun x => (k, n, f, x.2.2.2)) := by
  unfold setC
  cases hx : cellO (vN μ A) p c with
  | some x =>
    obtain ⟨i, rfl, hi, rfl⟩ := cellO_some hx
    exact rG_putC h hc
  | none =>
    cases p with
    | none => rfl
    | some i =>
      have h1 := cellO_none hx i rfl
      exact (modify_none (by rw [len_rG]; exact h1)).symm
theorem rG_setT {μ : jM} {A : GA} {p : Option Nat} {c : Nat} {t : Int32} (h : Aok A) (hc : c < 3) : rG (setT μ A p c t) A = lset (rG μ A) p c (fun x => (x.1, x.2.1, x.2.2.1, t)) := by
  unfold setT
  cases hx : cellO (vN μ A) p c with
  | some x =>
    obtain ⟨i, rfl, hi, rfl⟩ := cellO_some hx
    exact rG_putT h hc
  | none =>
    cases p with
    | none => rfl
    | some i =>
      have h1 := cellO_none hx i rfl
      exact (modify_none (by rw [len_rG]; exact h1)).symm
theorem len_lset {φ : Type} {l : List (RW φ)} {p : Option Nat} {c : Nat} {v : RC φ → RC φ} : (lset l p c v).length = l.length := by
  unfold lset
  cases p with
  | none => rfl
  | some i => exact List.length_modify _ _ _
section GRID
variable {μ μ' : jM} {g h d : Nat} {p q : Option Nat} {c : Nat}
theorem FG.gs (f : FG g μ μ') (ht : ∀ j b, jrv μ' (g + 4) j = some b → jk μ b = 5) (hs : Gs μ g) : Gs μ' g := by
  obtain ⟨h1, h2, h3⟩ := hs
  have hr : ∀ j, jrv μ' g j = jrv μ g j := fun j => f.rv (by omega)
  refine ⟨by rw [f.kk, f.ll]; exact h1, by rw [hr, hr, hr, hr, hr]; exact h2, fun j b hb => by rw [f.kk]; exact ht j b hb⟩
/-- two grids are one, or apart -/
def Dj (g h : Nat) : Prop := g = h ∨ g + 6 ≤ h ∨ h + 6 ≤ g
theorem FG.gs' (f : FG g μ μ') (hd : g + 6 ≤ h ∨ h + 6 ≤ g) (hs : Gs μ h) : Gs μ' h := by
  obtain ⟨h1, h2, h3⟩ := hs
  have hr : ∀ j, jrv μ' h j = jrv μ h j := fun j => f.rv (by omega)
  have hr4 : ∀ j, jrv μ' (h + 4) j = jrv μ (h + 4) j := fun j => f.rv (by omega)
  exact ⟨by rw [f.kk, f.ll]; exact h1, by rw [hr, hr, hr, hr, hr]; exact h2, fun j b hb => by rw [hr4] at hb; rw [f.kk]; exact h3 j b hb⟩
/-- what is outside stays, as rows -/
theorem rG_same {A : GA} (h0 : jiv μ' (A.1 0) A.2 = jiv μ (A.1 0) A.2) (h1 : jiv μ' (A.1 1) = jiv μ (A.1 1)) (h2 : jiv μ' (A.1 2) = jiv μ (A.1 2)) (h3 : jiv μ' (A.1 3) = jiv μ (A.1 3)) (h4 : jrv μ' (A.1 4) = jrv μ (A.1 4)) (h5 : jiv μ' (A.1 5) = jiv μ (A.1 5)) : rG μ' A = rG μ A ∧ vN μ' A = vN μ A := by
  have e : vN μ' A = vN μ A := by unfold vN; rw [h0]
  refine ⟨?_, e⟩
  unfold rG rc
  rw [e, h1, h2, h3, h4, h5]
theorem FG.rows (f : FG g μ μ') (hd : g + 6 ≤ h ∨ h + 6 ≤ g) : rG μ' (xA h) = rG μ (xA h) ∧ vN μ' (xA h) = vN μ (xA h) := by
  have hi : ∀ j, j < 6 → jiv μ' (h + j) = jiv μ (h + j) := fun j hj => f.iv (by omega)
  refine rG_same (congrFun (hi 0 (by omega)) 0) (hi 1 (by omega)) (hi 2 (by omega)) (hi 3 (by omega)) ?_ (hi 5 (by omega))
  funext j
  exact f.rv (show ¬ h + 4 = g + 4 by omega)
theorem FG.gn' (f : FG g μ μ') (hd : g + 6 ≤ h ∨ h + 6 ≤ g) (hn : Gn μ h) : Gn μ' h := by
  obtain ⟨e1, e2⟩ := f.rows hd
  have hi : jiv μ' h = jiv μ h := f.iv (by omega)
  unfold Gn
  rw [e2, hi]
  exact hn
theorem fg_setC {k n : Int32} {f : Option Nat} : FG g μ (setC μ (xA g) p c k n f) := by
  unfold setC
  cases cellO (vN μ (xA g)) p c with
  | some x => exact ((Fx.refl.setI (by show g ≤ g + 2 ∧ g + 2 < g + 6; omega)).setI (by show g ≤ g + 3 ∧ g + 3 < g + 6; omega)).setR (show g + 4 = g + 4 from rfl)
  | none => exact Fx.refl
theorem fg_setT {t : Int32} : FG g μ (setT μ (xA g) p c t) := by
  unfold setT
  cases cellO (vN μ (xA g)) p c with
  | some x => exact Fx.refl.setI (by show g ≤ g + 5 ∧ g + 5 < g + 6; omega)
  | none => exact Fx.refl
theorem gs_setC {k n : Int32} {f : Option Nat} (hs : Gs μ g) (hf : ∀ b, f = some b → jk μ b = 5) : Gs (setC μ (xA g) p c k n f) g := by
  refine FG.gs fg_setC (fun j b hb => ?_) hs
  unfold setC at hb
  cases hx : cellO (vN μ (xA g)) p c with
  | some x =>
    rw [hx] at hb
    simp only [putC, ty_setI, ty_setR, ty_rowI, ty_rowR, jk_setI, jk_setR, jk_rowI, jk_rowR, jl_setI, jl_setR, jl_rowI, jl_rowR, sz_setI, sz_setR, sz_rowI, sz_rowR, ext_setI, ext_setR, iv_setI, iv_setR, iv_rowI, iv_rowR, rv_setI, rv_setR, rv_rowI, rv_rowR, iv_setIn, iv_rowIn, rv_setRn, rv_rowRn, iv_rowIe, rv_rowRe] at hb
    split at hb
    · exact hf b hb
    · exact hs.2.2 j b hb
  | none => rw [hx] at hb; exact hs.2.2 j b hb
theorem gs_setT {t : Int32} (hs : Gs μ g) : Gs (setT μ (xA g) p c t) g := by
  refine FG.gs fg_setT (fun j b hb => ?_) hs
  unfold setT at hb
  cases hx : cellO (vN μ (xA g)) p c with
  | some x => rw [hx] at hb; exact hs.2.2 j b hb
  | none => rw [hx] at hb; exact hs.2.2 j b hb
theorem vN_setC {A : GA} {k n : Int32} {f : Option Nat} (h : Aok A) : vN (setC μ A p c k n f) A = vN μ A := by
  unfold setC
  cases hx : cellO (vN μ A) p c with
  | some x => exact vN_putC h
  | none => rfl
theorem vN_setT {A : GA} {t : Int32} (h : Aok A) : vN (setT μ A p c t) A = vN μ A := by
  unfold setT
  cases hx : cellO (vN μ A) p c with
  | some x => exact vN_putT h
  | none => rfl
theorem gn_setC {k n : Int32} {f : Option Nat} (hn : Gn μ g) : Gn (setC μ (xA g) p c k n f) g := by
  unfold Gn
  rw [vN_setC (xA_ok g)]
  refine ⟨?_, hn.2⟩
  rw [← hn.1]
  unfold setC
  cases hx : cellO (vN μ (xA g)) p c with
  | some x =>
    simp only [putC, xA, ty_setI, ty_setR, ty_rowI, ty_rowR, jk_setI, jk_setR, jk_rowI, jk_rowR, jl_setI, jl_setR, jl_rowI, jl_rowR, sz_setI, sz_setR, sz_rowI, sz_rowR, ext_setI, ext_setR, iv_setI, iv_setR, iv_rowI, iv_rowR, rv_setI, rv_setR, rv_rowI, rv_rowR, iv_setIn, iv_rowIn, rv_setRn, rv_rowRn, iv_rowIe, rv_rowRe, show ¬ g = g + 2 by omega, show ¬ g = g + 3 by omega, false_and, if_false]
  | none => rfl
theorem gn_setT {t : Int32} (hn : Gn μ g) : Gn (setT μ (xA g) p c t) g := by
  unfold Gn
  rw [vN_setT (xA_ok g)]
  refine ⟨?_, hn.2⟩
  rw [← hn.1]
  unfold setT
  cases hx : cellO (vN μ (xA g)) p c with
  | some x =>
    simp only [putT, xA, ty_setI, ty_setR, ty_rowI, ty_rowR, jk_setI, jk_setR, jk_rowI, jk_rowR, jl_setI, jl_setR, jl_rowI, jl_rowR, sz_setI, sz_setR, sz_rowI, sz_rowR, ext_setI, ext_setR, iv_setI, iv_setR, iv_rowI, iv_rowR, rv_setI, rv_setR, rv_rowI, rv_rowR, iv_setIn, iv_rowIn, rv_setRn, rv_rowRn, iv_rowIe, rv_rowRe, show ¬ g = g + 5 by omega, false_and, if_false]
  | none => rfl
-- the methods
theorem x_kindAt (hs : Gs μ g) (hn : Gn μ g) (hp : ∀ i, p = some i → i < 1000) (hc : c < 3) : jC (d + 1) 101 [.ref g, .int (pl p), .int (N c)] μ = some (some (.int (cO none (rG μ (xA g)) p c).1), μ) := by
  rw [jC_run (by decide)]
  show jR (d + 1) 101 0 [.ref g, .int (pl p), .int (N c), .retAddr 0] [] μ = _
  unfold rG
  rw [cO_mkL hc]
  simp only [b101_0, x_cellO hs hn hp hc, gI6, gR6, pI6, pR6, rv6, aI_eq, aB_eq, aR_eq, sI_eq, sB_eq, sR_eq, Option.bind_some, Option.bind_none, if_true, if_false, true_or, or_true, false_or, or_false, true_and, and_true, false_and, and_false, decide_eq_true_eq, decide_true, decide_false, eq_self, not_true_eq_false, not_false_eq_true, jfit0, N_lit, N_add, N_mul, NEG_eq, pl_none, pl_some, rf_some, rf_none, jun_ref, jun_null, ir_ref, ir_null, jr_rf, jun_rf, Option.toList_some, Option.toList_none, List.nil_append, List.cons_append, hs.1]
  cases hx : cellO (vN μ (xA g)) p c with
  | none => simp only [b101_6, b101_22, aI_eq, aB_eq, aR_eq, sI_eq, sB_eq, sR_eq, Option.bind_some, Option.bind_none, if_true, if_false, true_or, or_true, false_or, or_false, true_and, and_true, false_and, and_false, decide_eq_true_eq, decide_true, decide_false, eq_self, not_true_eq_false, not_false_eq_true, jfit0, N_lit, N_add, N_mul, NEG_eq, pl_none, pl_some, rf_some, rf_none, jun_ref, jun_null, ir_ref, ir_null, jr_rf, jun_rf, Option.toList_some, Option.toList_none, List.nil_append, List.cons_append]
  | some x =>
    have hl := cellO_lt hn.2 hc hx
    have b0 : x < 2147483648 := by omega
    simp only [b101_6, b101_22, gI6, gR6, pI6, pR6, rv6, aI_eq, aB_eq, aR_eq, sI_eq, sB_eq, sR_eq, Option.bind_some, Option.bind_none, if_true, if_false, true_or, or_true, false_or, or_false, true_and, and_true, false_and, and_false, decide_eq_true_eq, decide_true, decide_false, eq_self, not_true_eq_false, not_false_eq_true, jfit0, N_lit, N_add, N_mul, NEG_eq, pl_none, pl_some, rf_some, rf_none, jun_ref, jun_null, ir_ref, ir_null, jr_rf, jun_rf, Option.toList_some, Option.toList_none, List.nil_append, List.cons_append, hs.1, hs.2.1, N_NEG b0, jinb_N b0, hl.1, N_nat b0]; rfl
theorem x_numberAt (hs : Gs μ g) (hn : Gn μ g) (hp : ∀ i, p = some i → i < 1000) (hc : c < 3) : jC (d + 1) 102 [.ref g, .int (pl p), .int (N c)] μ = some (some (.int (cO none (rG μ (xA g)) p c).2.1), μ) := by
  rw [jC_run (by decide)]
  show jR (d + 1) 102 0 [.ref g, .int (pl p), .int (N c), .retAddr 0] [] μ = _
  unfold rG
  rw [cO_mkL hc]
  simp only [b102_0, x_cellO hs hn hp hc, gI6, gR6, pI6, pR6, rv6, aI_eq, aB_eq, aR_eq, sI_eq, sB_eq, sR_eq, Option.bind_some, Option.bind_none, if_true, if_false, true_or, or_true, false_or, or_false, true_and, and_true, false_and, and_false, decide_eq_true_eq, decide_true, decide_false, eq_self, not_true_eq_false, not_false_eq_true, jfit0, N_lit, N_add, N_mul, NEG_eq, pl_none, pl_some, rf_some, rf_none, jun_ref, jun_null, ir_ref, ir_null, jr_rf, jun_rf, Option.toList_some, Option.toList_none, List.nil_append, List.cons_append, hs.1]
  cases hx : cellO (vN μ (xA g)) p c with
  | none => simp only [b102_6, b102_22, aI_eq, aB_eq, aR_eq, sI_eq, sB_eq, sR_eq, Option.bind_some, Option.bind_none, if_true, if_false, true_or, or_true, false_or, or_false, true_and, and_true, false_and, and_false, decide_eq_true_eq, decide_true, decide_false, eq_self, not_true_eq_false, not_false_eq_true, jfit0, N_lit, N_add, N_mul, NEG_eq, pl_none, pl_some, rf_some, rf_none, jun_ref, jun_null, ir_ref, ir_null, jr_rf, jun_rf, Option.toList_some, Option.toList_none, List.nil_append, List.cons_append]
  | some x =>
    have hl := cellO_lt hn.2 hc hx
    have b0 : x < 2147483648 := by omega
    simp only [b102_6, b102_22, gI6, gR6, pI6, pR6, rv6, aI_eq, aB_eq, aR_eq, sI_eq, sB_eq, sR_eq, Option.bind_some, Option.bind_none, if_true, if_false, true_or, or_true, false_or, or_false, true_and, and_true, false_and, and_false, decide_eq_true_eq, decide_true, decide_false, eq_self, not_true_eq_false, not_false_eq_true, jfit0, N_lit, N_add, N_mul, NEG_eq, pl_none, pl_some, rf_some, rf_none, jun_ref, jun_null, ir_ref, ir_null, jr_rf, jun_rf, Option.toList_some, Option.toList_none, List.nil_append, List.cons_append, hs.1, hs.2.1, N_NEG b0, jinb_N b0, hl.1, N_nat b0]; rfl
theorem x_formulaAt (hs : Gs μ g) (hn : Gn μ g) (hp : ∀ i, p = some i → i < 1000) (hc : c < 3) : jC (d + 1) 103 [.ref g, .int (pl p), .int (N c)] μ = some (some (va_rf (cO none (rG μ (xA g)) p c).2.2.1), μ) := by
  rw [jC_run (by decide)]
  show jR (d + 1) 103 0 [.ref g, .int (pl p), .int (N c), .retAddr 0] [] μ = _
  unfold rG
  rw [cO_mkL hc]
  simp only [b103_0, x_cellO hs hn hp hc, gI6, gR6, pI6, pR6, rv6, aI_eq, aB_eq, aR_eq, sI_eq, sB_eq, sR_eq, Option.bind_some, Option.bind_none, if_true, if_false, true_or, or_true, false_or, or_false, true_and, and_true, false_and, and_false, decide_eq_true_eq, decide_true, decide_false, eq_self, not_true_eq_false, not_false_eq_true, jfit0, N_lit, N_add, N_mul, NEG_eq, pl_none, pl_some, rf_some, rf_none, jun_ref, jun_null, ir_ref, ir_null, jr_rf, jun_rf, Option.toList_some, Option.toList_none, List.nil_append, List.cons_append, hs.1]
  cases hx : cellO (vN μ (xA g)) p c with
  | none => simp only [b103_6, b103_22, aI_eq, aB_eq, aR_eq, sI_eq, sB_eq, sR_eq, Option.bind_some, Option.bind_none, if_true, if_false, true_or, or_true, false_or, or_false, true_and, and_true, false_and, and_false, decide_eq_true_eq, decide_true, decide_false, eq_self, not_true_eq_false, not_false_eq_true, jfit0, N_lit, N_add, N_mul, NEG_eq, pl_none, pl_some, rf_some, rf_none, jun_ref, jun_null, ir_ref, ir_null, jr_rf, jun_rf, Option.toList_some, Option.toList_none, List.nil_append, List.cons_append]
  | some x =>
    have hl := cellO_lt hn.2 hc hx
    have b0 : x < 2147483648 := by omega
    simp only [b103_6, b103_22, gI6, gR6, pI6, pR6, rv6, aI_eq, aB_eq, aR_eq, sI_eq, sB_eq, sR_eq, Option.bind_some, Option.bind_none, if_true, if_false, true_or, or_true, false_or, or_false, true_and, and_true, false_and, and_false, decide_eq_true_eq, decide_true, decide_false, eq_self, not_true_eq_false, not_false_eq_true, jfit0, N_lit, N_add, N_mul, NEG_eq, pl_none, pl_some, rf_some, rf_none, jun_ref, jun_null, ir_ref, ir_null, jr_rf, jun_rf, Option.toList_some, Option.toList_none, List.nil_append, List.cons_append, hs.1, hs.2.1, N_NEG b0, jinb_N b0, hl.1, N_nat b0, show 30 ≤ 30 ∧ 30 < 36 by decide]; rfl
theorem x_noteAt (hs : Gs μ g) (hn : Gn μ g) (hp : ∀ i, p = some i → i < 1000) (hc : c < 3) : jC (d + 1) 99 [.ref g, .int (pl p), .int (N c)] μ = some (some (.int (cO none (rG μ (xA g)) p c).2.2.2), μ) := by
  rw [jC_run (by decide)]
  show jR (d + 1) 99 0 [.ref g, .int (pl p), .int (N c), .retAddr 0] [] μ = _
  unfold rG
  rw [cO_mkL hc]
  simp only [b99_0, x_cellO hs hn hp hc, gI6, gR6, pI6, pR6, rv6, aI_eq, aB_eq, aR_eq, sI_eq, sB_eq, sR_eq, Option.bind_some, Option.bind_none, if_true, if_false, true_or, or_true, false_or, or_false, true_and, and_true, false_and, and_false, decide_eq_true_eq, decide_true, decide_false, eq_self, not_true_eq_false, not_false_eq_true, jfit0, N_lit, N_add, N_mul, NEG_eq, pl_none, pl_some, rf_some, rf_none, jun_ref, jun_null, ir_ref, ir_null, jr_rf, jun_rf, Option.toList_some, Option.toList_none, List.nil_append, List.cons_append, hs.1]
  cases hx : cellO (vN μ (xA g)) p c with
  | none => simp only [b99_6, b99_22, aI_eq, aB_eq, aR_eq, sI_eq, sB_eq, sR_eq, Option.bind_some, Option.bind_none, if_true, if_false, true_or, or_true, false_or, or_false, true_and, and_true, false_and, and_false, decide_eq_true_eq, decide_true, decide_false, eq_self, not_true_eq_false, not_false_eq_true, jfit0, N_lit, N_add, N_mul, NEG_eq, pl_none, pl_some, rf_some, rf_none, jun_ref, jun_null, ir_ref, ir_null, jr_rf, jun_rf, Option.toList_some, Option.toList_none, List.nil_append, List.cons_append]
  | some x =>
    have hl := cellO_lt hn.2 hc hx
    have b0 : x < 2147483648 := by omega
    simp only [b99_6, b99_22, gI6, gR6, pI6, pR6, rv6, aI_eq, aB_eq, aR_eq, sI_eq, sB_eq, sR_eq, Option.bind_some, Option.bind_none, if_true, if_false, true_or, or_true, false_or, or_false, true_and, and_true, false_and, and_false, decide_eq_true_eq, decide_true, decide_false, eq_self, not_true_eq_false, not_false_eq_true, jfit0, N_lit, N_add, N_mul, NEG_eq, pl_none, pl_some, rf_some, rf_none, jun_ref, jun_null, ir_ref, ir_null, jr_rf, jun_rf, Option.toList_some, Option.toList_none, List.nil_append, List.cons_append, hs.1, hs.2.1, N_NEG b0, jinb_N b0, hl.1, N_nat b0]; rfl
theorem x_setContent {k n : Int32} {f : Option Nat} (hs : Gs μ g) (hn : Gn μ g) (hp : ∀ i, p = some i → i < 1000) (hc : c < 3) (hf : ∀ b, f = some b → jk μ b = 5) : jC (d + 1) 91 [.ref g, .int (pl p), .int (N c), .int k, .int n, va_rf f] μ = some (none, setC μ (xA g) p c k n f) := by
  rw [jC_run (by decide)]
  show jR (d + 1) 91 0 [.ref g, .int (pl p), .int (N c), .int k, .int n, va_rf f, .retAddr 0] [] μ = _
  simp only [b91_0, x_cellO hs hn hp hc, gI6, gR6, pI6, pR6, rv6, aI_eq, aB_eq, aR_eq, sI_eq, sB_eq, sR_eq, Option.bind_some, Option.bind_none, if_true, if_false, true_or, or_true, false_or, or_false, true_and, and_true, false_and, and_false, decide_eq_true_eq, decide_true, decide_false, eq_self, not_true_eq_false, not_false_eq_true, jfit0, N_lit, N_add, N_mul, NEG_eq, pl_none, pl_some, rf_some, rf_none, jun_ref, jun_null, ir_ref, ir_null, jr_rf, jun_rf, Option.toList_some, Option.toList_none, List.nil_append, List.cons_append, hs.1]
  unfold setC
  cases hx : cellO (vN μ (xA g)) p c with
  | none => simp only [b91_6, b91_40, aI_eq, aB_eq, aR_eq, sI_eq, sB_eq, sR_eq, Option.bind_some, Option.bind_none, if_true, if_false, true_or, or_true, false_or, or_false, true_and, and_true, false_and, and_false, decide_eq_true_eq, decide_true, decide_false, eq_self, not_true_eq_false, not_false_eq_true, jfit0, N_lit, N_add, N_mul, NEG_eq, pl_none, pl_some, rf_some, rf_none, jun_ref, jun_null, ir_ref, ir_null, jr_rf, jun_rf, Option.toList_some, Option.toList_none, List.nil_append, List.cons_append]
  | some x =>
    have hl := cellO_lt hn.2 hc hx
    have b0 : x < 2147483648 := by omega
    simp only [b91_6, b91_40, gI6, gR6, pI6, pR6, rv6, aI_eq, aB_eq, aR_eq, sI_eq, sB_eq, sR_eq, Option.bind_some, Option.bind_none, if_true, if_false, true_or, or_true, false_or, or_false, true_and, and_true, false_and, and_false, decide_eq_true_eq, decide_true, decide_false, eq_self, not_true_eq_false, not_false_eq_true, jfit0, N_lit, N_add, N_mul, NEG_eq, pl_none, pl_some, rf_some, rf_none, jun_ref, jun_null, ir_ref, ir_null, jr_rf, jun_rf, Option.toList_some, Option.toList_none, List.nil_append, List.cons_append, ty_setI, ty_setR, ty_rowI, ty_rowR, jk_setI, jk_setR, jk_rowI, jk_rowR, jl_setI, jl_setR, jl_rowI, jl_rowR, sz_setI, sz_setR, sz_rowI, sz_rowR, ext_setI, ext_setR, iv_setI, iv_setR, iv_rowI, iv_rowR, rv_setI, rv_setR, rv_rowI, rv_rowR, iv_setIn, iv_rowIn, rv_setRn, rv_rowRn, iv_rowIe, rv_rowRe, hs.1, hs.2.1, N_NEG b0, jinb_N b0, hl.1, N_nat b0, show 30 ≤ 30 ∧ 30 < 36 by decide]
    rw [if_pos (by exact jokel_rf (by simpa only [ty_setI, ty_setR, ty_rowI, ty_rowR, jk_setI, jk_setR, jk_rowI, jk_rowR, jl_setI, jl_setR, jl_rowI, jl_rowR, sz_setI, sz_setR, sz_rowI, sz_rowR, ext_setI, ext_setR, iv_setI, iv_setR, iv_rowI, iv_rowR, rv_setI, rv_setR, rv_rowI, rv_rowR, iv_setIn, iv_rowIn, rv_setRn, rv_rowRn, iv_rowIe, rv_rowRe] using hf))]
    simp only [aI_eq, aB_eq, aR_eq, sI_eq, sB_eq, sR_eq, Option.bind_some, Option.bind_none, if_true, if_false, true_or, or_true, false_or, or_false, true_and, and_true, false_and, and_false, decide_eq_true_eq, decide_true, decide_false, eq_self, not_true_eq_false, not_false_eq_true, jfit0, N_lit, N_add, N_mul, NEG_eq, pl_none, pl_some, rf_some, rf_none, jun_ref, jun_null, ir_ref, ir_null, jr_rf, jun_rf, Option.toList_some, Option.toList_none, List.nil_append, List.cons_append]; rfl
theorem x_setNote {t : Int32} (hs : Gs μ g) (hn : Gn μ g) (hp : ∀ i, p = some i → i < 1000) (hc : c < 3) : jC (d + 1) 94 [.ref g, .int (pl p), .int (N c), .int t] μ = some (none, setT μ (xA g) p c t) := by
  rw [jC_run (by decide)]
  show jR (d + 1) 94 0 [.ref g, .int (pl p), .int (N c), .int t, .retAddr 0] [] μ = _
  simp only [b94_0, x_cellO hs hn hp hc, gI6, gR6, pI6, pR6, rv6, aI_eq, aB_eq, aR_eq, sI_eq, sB_eq, sR_eq, Option.bind_some, Option.bind_none, if_true, if_false, true_or, or_true, false_or, or_false, true_and, and_true, false_and, and_false, decide_eq_true_eq, decide_true, decide_false, eq_self, not_true_eq_false, not_false_eq_true, jfit0, N_lit, N_add, N_mul, NEG_eq, pl_none, pl_some, rf_some, rf_none, jun_ref, jun_null, ir_ref, ir_null, jr_rf, jun_rf, Option.toList_some, Option.toList_none, List.nil_append, List.cons_append, hs.1]
  unfold setT
  cases hx : cellO (vN μ (xA g)) p c with
  | none => simp only [b94_6, b94_22, aI_eq, aB_eq, aR_eq, sI_eq, sB_eq, sR_eq, Option.bind_some, Option.bind_none, if_true, if_false, true_or, or_true, false_or, or_false, true_and, and_true, false_and, and_false, decide_eq_true_eq, decide_true, decide_false, eq_self, not_true_eq_false, not_false_eq_true, jfit0, N_lit, N_add, N_mul, NEG_eq, pl_none, pl_some, rf_some, rf_none, jun_ref, jun_null, ir_ref, ir_null, jr_rf, jun_rf, Option.toList_some, Option.toList_none, List.nil_append, List.cons_append]
  | some x =>
    have hl := cellO_lt hn.2 hc hx
    have b0 : x < 2147483648 := by omega
    simp only [b94_6, b94_22, gI6, gR6, pI6, pR6, rv6, aI_eq, aB_eq, aR_eq, sI_eq, sB_eq, sR_eq, Option.bind_some, Option.bind_none, if_true, if_false, true_or, or_true, false_or, or_false, true_and, and_true, false_and, and_false, decide_eq_true_eq, decide_true, decide_false, eq_self, not_true_eq_false, not_false_eq_true, jfit0, N_lit, N_add, N_mul, NEG_eq, pl_none, pl_some, rf_some, rf_none, jun_ref, jun_null, ir_ref, ir_null, jr_rf, jun_rf, Option.toList_some, Option.toList_none, List.nil_append, List.cons_append, ty_setI, ty_setR, ty_rowI, ty_rowR, jk_setI, jk_setR, jk_rowI, jk_rowR, jl_setI, jl_setR, jl_rowI, jl_rowR, sz_setI, sz_setR, sz_rowI, sz_rowR, ext_setI, ext_setR, iv_setI, iv_setR, iv_rowI, iv_rowR, rv_setI, rv_setR, rv_rowI, rv_rowR, iv_setIn, iv_rowIn, rv_setRn, rv_rowRn, iv_rowIe, rv_rowRe, hs.1, hs.2.1, N_NEG b0, jinb_N b0, hl.1, N_nat b0]; rfl
theorem x_contentAsIn (hs : Gs μ g) (hn : Gn μ g) (hs' : Gs μ h) (hn' : Gn μ h) (hd : Dj g h) (hp : ∀ i, p = some i → i < 1000) (hq : ∀ i, q = some i → i < 1000) (hc : c < 3) : jC (d + 1) 109 [.ref g, .ref h, .int (pl q), .int (pl p), .int (N c)] μ = some (none, setC μ (xA g) p c (cO none (rG μ (xA h)) q c).1 (cO none (rG μ (xA h)) q c).2.1 (cO none (rG μ (xA h)) q c).2.2.1) := by
  rw [jC_run (by decide)]
  show jR (d + 1) 109 0 [.ref g, .ref h, .int (pl q), .int (pl p), .int (N c), .retAddr 0, .retAddr 0, .retAddr 0] [] μ = _
  simp only [b109_0, x_cellO hs hn hp hc, gI6, gR6, pI6, pR6, rv6, aI_eq, aB_eq, aR_eq, sI_eq, sB_eq, sR_eq, Option.bind_some, Option.bind_none, if_true, if_false, true_or, or_true, false_or, or_false, true_and, and_true, false_and, and_false, decide_eq_true_eq, decide_true, decide_false, eq_self, not_true_eq_false, not_false_eq_true, jfit0, N_lit, N_add, N_mul, NEG_eq, pl_none, pl_some, rf_some, rf_none, jun_ref, jun_null, ir_ref, ir_null, jr_rf, jun_rf, Option.toList_some, Option.toList_none, List.nil_append, List.cons_append, hs.1]
  rw [b109_7 (h1 := ir_ref)]
  simp only [x_cellO hs' hn' hq hc, gI6, gR6, pI6, pR6, rv6, aI_eq, aB_eq, aR_eq, sI_eq, sB_eq, sR_eq, Option.bind_some, Option.bind_none, if_true, if_false, true_or, or_true, false_or, or_false, true_and, and_true, false_and, and_false, decide_eq_true_eq, decide_true, decide_false, eq_self, not_true_eq_false, not_false_eq_true, jfit0, N_lit, N_add, N_mul, NEG_eq, pl_none, pl_some, rf_some, rf_none, jun_ref, jun_null, ir_ref, ir_null, jr_rf, jun_rf, Option.toList_some, Option.toList_none, List.nil_append, List.cons_append, hs'.1]
  unfold setC
  have hcO : cO none (rG μ (xA h)) q c = _ := cO_mkL hc
  rw [hcO]
  unfold Dj at hd
  cases hx : cellO (vN μ (xA g)) p c with
  | none => simp only [b109_16, aI_eq, aB_eq, aR_eq, sI_eq, sB_eq, sR_eq, Option.bind_some, Option.bind_none, if_true, if_false, true_or, or_true, false_or, or_false, true_and, and_true, false_and, and_false, decide_eq_true_eq, decide_true, decide_false, eq_self, not_true_eq_false, not_false_eq_true, jfit0, N_lit, N_add, N_mul, NEG_eq, pl_none, pl_some, rf_some, rf_none, jun_ref, jun_null, ir_ref, ir_null, jr_rf, jun_rf, Option.toList_some, Option.toList_none, List.nil_append, List.cons_append]
  | some x =>
    have hl := cellO_lt hn.2 hc hx
    have b0 : x < 2147483648 := by omega
    cases hy : cellO (vN μ (xA h)) q c with
    | none =>
      simp only [b109_16, b109_36, b109_60, b109_83, b109_106, gI6, gR6, pI6, pR6, rv6, aI_eq, aB_eq, aR_eq, sI_eq, sB_eq, sR_eq, Option.bind_some, Option.bind_none, if_true, if_false, true_or, or_true, false_or, or_false, true_and, and_true, false_and, and_false, decide_eq_true_eq, decide_true, decide_false, eq_self, not_true_eq_false, not_false_eq_true, jfit0, N_lit, N_add, N_mul, NEG_eq, pl_none, pl_some, rf_some, rf_none, jun_ref, jun_null, ir_ref, ir_null, jr_rf, jun_rf, Option.toList_some, Option.toList_none, List.nil_append, List.cons_append, ty_setI, ty_setR, ty_rowI, ty_rowR, jk_setI, jk_setR, jk_rowI, jk_rowR, jl_setI, jl_setR, jl_rowI, jl_rowR, sz_setI, sz_setR, sz_rowI, sz_rowR, ext_setI, ext_setR, iv_setI, iv_setR, iv_rowI, iv_rowR, rv_setI, rv_setR, rv_rowI, rv_rowR, iv_setIn, iv_rowIn, rv_setRn, rv_rowRn, iv_rowIe, rv_rowRe, hs.1, hs.2.1, N_NEG b0, jinb_N b0, hl.1, N_nat b0, show 30 ≤ 30 ∧ 30 < 36 by decide, jokel_null]
      rfl
    | some y =>
      have hl' := cellO_lt hn'.2 hc hy
      have b1 : y < 2147483648 := by omega
      have d1 : ¬ h + 3 = g + 2 := by omega
      simp only [b109_16, b109_36, b109_60, b109_83, b109_106, gI6, gR6, pI6, pR6, rv6, aI_eq, aB_eq, aR_eq, sI_eq, sB_eq, sR_eq, Option.bind_some, Option.bind_none, if_true, if_false, true_or, or_true, false_or, or_false, true_and, and_true, false_and, and_false, decide_eq_true_eq, decide_true, decide_false, eq_self, not_true_eq_false, not_false_eq_true, jfit0, N_lit, N_add, N_mul, NEG_eq, pl_none, pl_some, rf_some, rf_none, jun_ref, jun_null, ir_ref, ir_null, jr_rf, jun_rf, Option.toList_some, Option.toList_none, List.nil_append, List.cons_append, ty_setI, ty_setR, ty_rowI, ty_rowR, jk_setI, jk_setR, jk_rowI, jk_rowR, jl_setI, jl_setR, jl_rowI, jl_rowR, sz_setI, sz_setR, sz_rowI, sz_rowR, ext_setI, ext_setR, iv_setI, iv_setR, iv_rowI, iv_rowR, rv_setI, rv_setR, rv_rowI, rv_rowR, iv_setIn, iv_rowIn, rv_setRn, rv_rowRn, iv_rowIe, rv_rowRe, hs.1, hs.2.1, hs'.1, hs'.2.1, N_NEG b0, N_NEG b1, jinb_N b0, jinb_N b1, hl.1, hl'.1, N_nat b0, N_nat b1, show 30 ≤ 30 ∧ 30 < 36 by decide, N_inj (show (1 : Nat) < 2147483648 by decide) (show (0 : Nat) < 2147483648 by decide), Nat.one_ne_zero, d1]
      rw [if_pos (jokel_rf (fun b hb => by simp only [ty_setI, ty_setR, ty_rowI, ty_rowR, jk_setI, jk_setR, jk_rowI, jk_rowR, jl_setI, jl_setR, jl_rowI, jl_rowR, sz_setI, sz_setR, sz_rowI, sz_rowR, ext_setI, ext_setR, iv_setI, iv_setR, iv_rowI, iv_rowR, rv_setI, rv_setR, rv_rowI, rv_rowR, iv_setIn, iv_rowIn, rv_setRn, rv_rowRn, iv_rowIe, rv_rowRe]; exact hs'.2.2 y b hb))]
      simp only [aI_eq, aB_eq, aR_eq, sI_eq, sB_eq, sR_eq, Option.bind_some, Option.bind_none, if_true, if_false, true_or, or_true, false_or, or_false, true_and, and_true, false_and, and_false, decide_eq_true_eq, decide_true, decide_false, eq_self, not_true_eq_false, not_false_eq_true, jfit0, N_lit, N_add, N_mul, NEG_eq, pl_none, pl_some, rf_some, rf_none, jun_ref, jun_null, ir_ref, ir_null, jr_rf, jun_rf, Option.toList_some, Option.toList_none, List.nil_append, List.cons_append]; rfl
end GRID
