/-! GRIDS: their shape in the memory, what they hold, the methods of Grid -/
/-- addresses of a grid: who tells how many rows (and at which slot), keys, kinds, numbers, formulas, notes -/
abbrev GA : Type := (Nat → Nat) × Nat
def xA (g : Nat) : GA := (fun j => g + j, 0)
abbrev RC (φ : Type) : Type := Int32 × Int32 × φ × Int32
abbrev RW (φ : Type) : Type := Int32 × RC φ × RC φ × RC φ
def vN (μ : jM) (A : GA) : Nat := (jiv μ (A.1 0) A.2).toNatClampNeg
def rc (μ : jM) (A : GA) : Nat → RC (Option Nat) := fun c => (jiv μ (A.1 2) c, jiv μ (A.1 3) c, jrv μ (A.1 4) c, jiv μ (A.1 5) c)
/-- the rows out of keys and cells -/
def mkL {φ : Type} (n : Nat) (key : Nat → Int32) (cell : Nat → RC φ) : List (RW φ) := (List.range n).map fun i => (key i, cell (i * 3), cell (i * 3 + 1), cell (i * 3 + 2))
def rG (μ : jM) (A : GA) : List (RW (Option Nat)) := mkL (vN μ A) (jiv μ (A.1 1)) (rc μ A)
def rcol {φ : Type} (w : RW φ) (c : Nat) : RC φ := if c = 0 then w.2.1 else if c = 1 then w.2.2.1 else w.2.2.2
def rset {φ : Type} (w : RW φ) (c : Nat) (x : RC φ) : RW φ := if c = 0 then (w.1, x, w.2.2) else if c = 1 then (w.1, w.2.1, x, w.2.2.2) else (w.1, w.2.1, w.2.2.1, x)
/-- the cell of a place, if there is one, else the empty one -/
def cO {φ : Type} (z : φ) (l : List (RW φ)) (p : Option Nat) (c : Nat) : RC φ := ((p.bind fun i => l[i]?).map fun w => rcol w c).getD (N 0, N 0, z, N 0)
def keyO {φ : Type} (l : List (RW φ)) (i : Nat) : Int32 := ((l[i]?).map fun w => w.1).getD (N 0)
def lfind {φ : Type} (k : Int32) (l : List (RW φ)) : Option Nat := l.findIdx? fun w => w.1 == k
def cellX (n : Nat) (x y : Int32) : Option Nat := if x < N 0 then none else if x < N n then if y < N 0 then none else if y < N 3 then some (x.toNatClampNeg * 3 + y.toNatClampNeg) else none else none
def cellO (n : Nat) (p : Option Nat) (c : Nat) : Option Nat := p.bind fun i => if i < n then some (i * 3 + c) else none
def updf {α : Type} (f : Nat → α) (i : Nat) (v : α) : Nat → α := fun j => if j = i then v else f j
section PURE
variable {φ : Type} {n : Nat} {key : Nat → Int32} {cell : Nat → RC φ}
theorem len_mkL : (mkL n key cell).length = n := by simp [mkL]
theorem mkL_get {i : Nat} (h : i < n) : (mkL n key cell)[i]? = some (key i, cell (i * 3), cell (i * 3 + 1), cell (i * 3 + 2)) := by
  unfold mkL
  rw [List.getElem?_map, List.getElem?_range h]; rfl
theorem mkL_none {i : Nat} (h : ¬ i < n) : (mkL n key cell)[i]? = none := by
  rw [List.getElem?_eq_none]; rw [len_mkL]; omega
theorem rcol_mk {k : Int32} {i c : Nat} (h : c < 3) : rcol (k, cell (i * 3), cell (i * 3 + 1), cell (i * 3 + 2)) c = cell (i * 3 + c) := by
  obtain rfl | rfl | rfl : c = 0 ∨ c = 1 ∨ c = 2 := by omega
  all_goals rfl
theorem cO_mkL {z : φ} {p : Option Nat} {c : Nat} (h : c < 3) : cO z (mkL n key cell) p c = match cellO n p c with | some x => cell x | none => (N 0, N 0, z, N 0) := by
  cases p with
  | none => rfl
  | some i =>
    unfold cO cellO
    simp only [Option.bind_some]
    by_cases hi : i < n
    · rw [mkL_get hi, if_pos hi]
      exact rcol_mk h
    · rw [mkL_none hi, if_neg hi]; rfl
theorem keyO_mkL {i : Nat} : keyO (mkL n key cell) i = if i < n then key i else N 0 := by
  unfold keyO
  by_cases hi : i < n
  · rw [mkL_get hi, if_pos hi]; rfl
  · rw [mkL_none hi, if_neg hi]; rfl
theorem mkL_congr {key' : Nat → Int32} {cell' : Nat → RC φ} (h1 : ∀ i, i < n → key i = key' i) (h2 : ∀ i, i < n * 3 → cell i = cell' i) : mkL n key cell = mkL n key' cell' := by
  unfold mkL
  refine List.map_congr_left fun i hi => ?_
  have hi := List.mem_range.mp hi
  rw [h1 i hi, h2 _ (by omega), h2 (i * 3 + 1) (by omega), h2 (i * 3 + 2) (by omega)]
theorem mkL_cell {i c : Nat} {v : RC φ} (hc : c < 3) : mkL n key (updf cell (i * 3 + c) v) = (mkL n key cell).modify i (fun w => rset w c v) := by
  apply List.ext_getElem?
  intro j
  rw [List.getElem?_modify]
  by_cases hj : j < n
  · rw [mkL_get hj, mkL_get hj]
    by_cases e : i = j
    · subst e
      obtain rfl | rfl | rfl : c = 0 ∨ c = 1 ∨ c = 2 := by omega
      all_goals simp [updf, rset]
    · have e1 : ∀ b, b < 3 → ¬ j * 3 + b = i * 3 + c := fun b hb => by omega
      have e0 := e1 0 (by omega)
      simp only [Nat.add_zero] at e0
      simp [updf, e, e0, e1 1 (by omega), e1 2 (by omega)]
  · rw [mkL_none hj, mkL_none hj]; rfl
theorem mkL_key {i : Nat} {v : Int32} : mkL n (updf key i v) cell = (mkL n key cell).modify i (fun w => (v, w.2)) := by
  apply List.ext_getElem?
  intro j
  rw [List.getElem?_modify]
  by_cases hj : j < n
  · rw [mkL_get hj, mkL_get hj]
    by_cases e : i = j
    · subst e; simp [updf]
    · have e' : ¬ j = i := fun h => e h.symm
      simp [updf, e, e']
  · rw [mkL_none hj, mkL_none hj]; rfl
theorem mkL_succ : mkL (n + 1) key cell = mkL n key cell ++ [(key n, cell (n * 3), cell (n * 3 + 1), cell (n * 3 + 2))] := by
  unfold mkL
  rw [List.range_succ, List.map_append]; rfl
theorem mkL_take {m : Nat} (h : m ≤ n) : mkL m key cell = (mkL n key cell).take m := by
  unfold mkL
  rw [← List.map_take, List.take_range, Nat.min_eq_left h]
theorem lfind_none {k : Int32} (h : ∀ j, j < n → key j ≠ k) : lfind k (mkL n key cell) = none := by
  unfold lfind
  rw [List.findIdx?_eq_none_iff]
  intro w hw
  obtain ⟨j, hj1⟩ := List.getElem?_of_mem hw
  by_cases hjn : j < n
  · rw [mkL_get hjn] at hj1
    cases hj1
    simpa using h j hjn
  · rw [mkL_none hjn] at hj1; cases hj1
theorem lfind_some {k : Int32} {i : Nat} (hi : i < n) (h : ∀ j, j < i → key j ≠ k) (e : key i = k) : lfind k (mkL n key cell) = some i := by
  unfold lfind
  rw [List.findIdx?_eq_some_iff_getElem]
  have gj : ∀ j, (hj : j < n) → (mkL n key cell)[j]'(by rw [len_mkL]; exact hj) = (key j, cell (j * 3), cell (j * 3 + 1), cell (j * 3 + 2)) := fun j hj => (List.getElem_eq_iff (by rw [len_mkL]; exact hj)).mpr (mkL_get hj)
  refine ⟨by rw [len_mkL]; exact hi, ?_, ?_⟩
  · rw [gj i hi]; simpa using e
  · intro j hji
    rw [gj j (by omega)]; simpa using h j hji
/-- two change places -/
def swf {α : Type} (f : Nat → α) (i j : Nat) : Nat → α := fun k => if k = j then f i else if k = i then f j else f k
def lswap {α : Type} (l : List α) (i j : Nat) : List α := match l[i]?, l[j]? with
  | some x, some y => (l.set i y).set j x
  | _, _ => l
theorem mkL_swap {i j : Nat} {cell' : Nat → RC φ} (hi : i < n) (hj : j < n) (h : ∀ k b, b < 3 → cell' (k * 3 + b) = if k = j then cell (i * 3 + b) else if k = i then cell (j * 3 + b) else cell (k * 3 + b)) : mkL n (swf key i j) cell' = lswap (mkL n key cell) i j := by
  unfold lswap
  rw [mkL_get hi, mkL_get hj]
  apply List.ext_getElem?
  intro k
  simp only [List.getElem?_set, List.length_set, len_mkL]
  have h0 := h k 0 (by omega)
  have h1 := h k 1 (by omega)
  have h2 := h k 2 (by omega)
  simp only [Nat.add_zero] at h0
  by_cases hk : k < n
  · rw [mkL_get hk, mkL_get hk, h0, h1, h2]
    unfold swf
    by_cases e1 : k = j
    · subst e1; simp [hj]
    · have e1' : ¬ j = k := fun g => e1 g.symm
      by_cases e2 : k = i
      · subst e2; simp [e1, e1', hi]
      · have e2' : ¬ i = k := fun g => e2 g.symm
        simp [e1, e1', e2, e2']
  · have e1 : ¬ j = k := fun g => hk (by omega)
    have e2 : ¬ i = k := fun g => hk (by omega)
    rw [mkL_none hk, mkL_none hk, if_neg e1, if_neg e2]
end PURE
theorem len_rG (μ : jM) (A : GA) : (rG μ A).length = vN μ A := len_mkL
/-- a content put into a cell -/
def putC (μ : jM) (A : GA) (x : Nat) (k n : Int32) (f : Option Nat) : jM := jsetR (jsetI (jsetI μ (A.1 2) x k) (A.1 3) x n) (A.1 4) x f
def putT (μ : jM) (A : GA) (x : Nat) (t : Int32) : jM := jsetI μ (A.1 5) x t
def Aok (A : GA) : Prop := ∀ i j, i < 6 → j < 6 → A.1 i = A.1 j → i = j
theorem xA_ok (g : Nat) : Aok (xA g) := fun i j _ _ h => by have h : g + i = g + j := h; omega
theorem Aok.ne {A : GA} (h : Aok A) {i j : Nat} (hi : i < 6) (hj : j < 6) (e : i ≠ j) : (A.1 i = A.1 j) = False := eq_false (fun g => e (h i j hi hj g))
section PUTS
variable {μ : jM} {A : GA} {x i c : Nat} {k n t : Int32} {f : Option Nat}
theorem rc_putC (h : Aok A) : rc (putC μ A x k n f) A = updf (rc μ A) x (k, n, f, (rc μ A x).2.2.2) := by
  funext y
  simp only [rc, putC, updf, ty_setI, ty_setR, ty_rowI, ty_rowR, jk_setI, jk_setR, jk_rowI, jk_rowR, jl_setI, jl_setR, jl_rowI, jl_rowR, sz_setI, sz_setR, sz_rowI, sz_rowR, ext_setI, ext_setR, iv_setI, iv_setR, iv_rowI, iv_rowR, rv_setI, rv_setR, rv_rowI, rv_rowR, iv_setIn, iv_rowIn, rv_setRn, rv_rowRn, iv_rowIe, rv_rowRe, h.ne (i := 2) (j := 3) (by decide) (by decide) (by decide), h.ne (i := 3) (j := 2) (by decide) (by decide) (by decide), h.ne (i := 5) (j := 3) (by decide) (by decide) (by decide), h.ne (i := 5) (j := 2) (by decide) (by decide) (by decide), false_and, if_false, true_and]
  by_cases e : y = x
  · subst e; simp only [if_true]
  · simp only [e, if_false]
theorem rc_putT (h : Aok A) : rc (putT μ A x t) A = updf (rc μ A) x ((rc μ A x).1, (rc μ A x).2.1, (rc μ A x).2.2.1, t) := by
  funext y
  simp only [rc, putT, updf, ty_setI, ty_setR, ty_rowI, ty_rowR, jk_setI, jk_setR, jk_rowI, jk_rowR, jl_setI, jl_setR, jl_rowI, jl_rowR, sz_setI, sz_setR, sz_rowI, sz_rowR, ext_setI, ext_setR, iv_setI, iv_setR, iv_rowI, iv_rowR, rv_setI, rv_setR, rv_rowI, rv_rowR, iv_setIn, iv_rowIn, rv_setRn, rv_rowRn, iv_rowIe, rv_rowRe, h.ne (i := 2) (j := 5) (by decide) (by decide) (by decide), h.ne (i := 3) (j := 5) (by decide) (by decide) (by decide), false_and, if_false, true_and]
  by_cases e : y = x
  · subst e; simp only [if_true]
  · simp only [e, if_false]
theorem key_putC (h : Aok A) : jiv (putC μ A x k n f) (A.1 1) = jiv μ (A.1 1) := by
  funext y
  simp only [putC, ty_setI, ty_setR, ty_rowI, ty_rowR, jk_setI, jk_setR, jk_rowI, jk_rowR, jl_setI, jl_setR, jl_rowI, jl_rowR, sz_setI, sz_setR, sz_rowI, sz_rowR, ext_setI, ext_setR, iv_setI, iv_setR, iv_rowI, iv_rowR, rv_setI, rv_setR, rv_rowI, rv_rowR, iv_setIn, iv_rowIn, rv_setRn, rv_rowRn, iv_rowIe, rv_rowRe, h.ne (i := 1) (j := 3) (by decide) (by decide) (by decide), h.ne (i := 1) (j := 2) (by decide) (by decide) (by decide), false_and, if_false]
theorem key_putT (h : Aok A) : jiv (putT μ A x t) (A.1 1) = jiv μ (A.1 1) := by
  funext y
  simp only [putT, ty_setI, ty_setR, ty_rowI, ty_rowR, jk_setI, jk_setR, jk_rowI, jk_rowR, jl_setI, jl_setR, jl_rowI, jl_rowR, sz_setI, sz_setR, sz_rowI, sz_rowR, ext_setI, ext_setR, iv_setI, iv_setR, iv_rowI, iv_rowR, rv_setI, rv_setR, rv_rowI, rv_rowR, iv_setIn, iv_rowIn, rv_setRn, rv_rowRn, iv_rowIe, rv_rowRe, h.ne (i := 1) (j := 5) (by decide) (by decide) (by decide), false_and, if_false]
theorem vN_putC (h : Aok A) : vN (putC μ A x k n f) A = vN μ A := by
  simp only [vN, putC, ty_setI, ty_setR, ty_rowI, ty_rowR, jk_setI, jk_setR, jk_rowI, jk_rowR, jl_setI, jl_setR, jl_rowI, jl_rowR, sz_setI, sz_setR, sz_rowI, sz_rowR, ext_setI, ext_setR, iv_setI, iv_setR, iv_rowI, iv_rowR, rv_setI, rv_setR, rv_rowI, rv_rowR, iv_setIn, iv_rowIn, rv_setRn, rv_rowRn, iv_rowIe, rv_rowRe, h.ne (i := 0) (j := 3) (by decide) (by decide) (by decide), h.ne (i := 0) (j := 2) (by decide) (by decide) (by decide), false_and, if_false]
theorem vN_putT (h : Aok A) : vN (putT μ A x t) A = vN μ A := by
  simp only [vN, putT, ty_setI, ty_setR, ty_rowI, ty_rowR, jk_setI, jk_setR, jk_rowI, jk_rowR, jl_setI, jl_setR, jl_rowI, jl_rowR, sz_setI, sz_setR, sz_rowI, sz_rowR, ext_setI, ext_setR, iv_setI, iv_setR, iv_rowI, iv_rowR, rv_setI, rv_setR, rv_rowI, rv_rowR, iv_setIn, iv_rowIn, rv_setRn, rv_rowRn, iv_rowIe, rv_rowRe, h.ne (i := 0) (j := 5) (by decide) (by decide) (by decide), false_and, if_false]
theorem rG_putC (h : Aok A) (hc : c < 3) : rG (putC μ A (i * 3 + c) k n f) A = (rG μ A).modify i (fun w => rset w c (k, n, f, (rcol w c).2.2.2)) := by
  unfold rG
  rw [rc_putC h, key_putC h, vN_putC h, mkL_cell hc]
  apply List.ext_getElem?
  intro j
  rw [List.getElem?_modify, List.getElem?_modify]
  by_cases e : i = j
  · subst e
    by_cases hi : i < vN μ A
    · rw [mkL_get hi]
      simp only [if_true, Option.map_eq_map, Option.map_some, rcol_mk hc]
    · rw [mkL_none hi]; rfl
  · simp only [if_neg e]
theorem rG_putT (h : Aok A) (hc : c < 3) : rG (putT μ A (i * 3 + c) t) A = (rG μ A).modify i (fun w => rset w c ((rcol w c).1, (rcol w c).2.1, (rcol w c).2.2.1, t)) := by
  unfold rG
  rw [rc_putT h, key_putT h, vN_putT h, mkL_cell hc]
  apply List.ext_getElem?
  intro j
  rw [List.getElem?_modify, List.getElem?_modify]
  by_cases e : i = j
  · subst e
    by_cases hi : i < vN μ A
    · rw [mkL_get hi]
      simp only [if_true, Option.map_eq_map, Option.map_some, rcol_mk hc]
    · rw [mkL_none hi]; rfl
  · simp only [if_neg e]
end PUTS
/-- a grid of the class: its shape, and that its formulas are such -/
def Gs (μ : jM) (g : Nat) : Prop :=
  (jk μ g = 6 ∧ jk μ (g + 1) = 20 ∧ jl μ (g + 1) = 8 ∧ jk μ (g + 2) = 20 ∧ jl μ (g + 2) = 24 ∧ jk μ (g + 3) = 20 ∧ jl μ (g + 3) = 24 ∧ jk μ (g + 4) = 30 ∧ jl μ (g + 4) = 24 ∧ jk μ (g + 5) = 20 ∧ jl μ (g + 5) = 24) ∧
  (jrv μ g 1 = some (g + 1) ∧ jrv μ g 2 = some (g + 2) ∧ jrv μ g 3 = some (g + 3) ∧ jrv μ g 4 = some (g + 4) ∧ jrv μ g 5 = some (g + 5)) ∧
  ∀ j b, jrv μ (g + 4) j = some b → jk μ b = 5
/-- how many rows -/
def Gn (μ : jM) (g : Nat) : Prop := jiv μ g 0 = N (vN μ (xA g)) ∧ vN μ (xA g) ≤ 8
def FG (g : Nat) (μ μ' : jM) : Prop := Fx (fun a => g ≤ a ∧ a < g + 6) (fun a _ => a = g + 4) μ μ'
theorem jokel_rf {μ : jM} {f : Option Nat} (h : ∀ b, f = some b → jk μ b = 5) : jokel μ 30 (va_rf f) = true := by
  cases f with
  | none => rfl
  | some b =>
    have h1 := jt_of (h b rfl) (by decide)
    show ((jty μ b).any fun q => q.1 == jel 30) = true
    rw [h1]; rfl
section GRID
variable {μ μ' : jM} {g d : Nat}
theorem x_cellAt (h : Gs μ g) (hn : Gn μ g) (x y : Int32) : jC d 88 [.ref g, .int x, .int y] μ = some (some (.int (pl (cellX (vN μ (xA g)) x y))), μ) := by
  obtain ⟨h1, h2, -⟩ := h
  rw [jC_run (by decide)]
  show jR d 88 0 [.ref g, .int x, .int y, .retAddr 0] [] μ = _
  simp only [b88_0, b88_25, b88_26, b88_40, gI6, gR6, pI6, pR6, rv6, aI_eq, aB_eq, aR_eq, sI_eq, sB_eq, sR_eq, Option.bind_some, Option.bind_none, if_true, if_false, true_or, or_true, false_or, or_false, true_and, and_true, false_and, and_false, decide_eq_true_eq, decide_true, decide_false, eq_self, not_true_eq_false, not_false_eq_true, jfit0, N_lit, N_add, N_mul, NEG_eq, pl_none, pl_some, rf_some, rf_none, jun_ref, jun_null, ir_ref, ir_null, jr_rf, jun_rf, Option.toList_some, Option.toList_none, List.nil_append, List.cons_append, h1, hn.1, N_inj, NEG_eq]
  generalize vN μ (xA g) = n at *
  unfold cellX
  by_cases a1 : x < N 0
  · simp only [a1, if_true]; rfl
  · by_cases a2 : x < N n
    · by_cases a3 : y < N 0
      · simp only [a1, a2, a3, if_true, if_false]; rfl
      · by_cases a4 : y < N 3
        · obtain ⟨i, hi, rfl⟩ := N_of a1
          obtain ⟨c, hc, rfl⟩ := N_of a3
          simp only [a1, a2, a3, a4, if_true, if_false, N_nat hi, N_nat hc, N_mul, N_add]; rfl
        · simp only [a1, a2, a3, a4, if_true, if_false]; rfl
    · simp only [a1, a2, if_true, if_false]; rfl
theorem cellX_N {n c : Nat} {p : Option Nat} (hn : n ≤ 8) (hp : ∀ i, p = some i → i < 1000) (hc : c < 3) : cellX n (pl p) (N c) = cellO n p c := by
  cases p with
  | none => unfold cellX; rw [if_pos (by decide)]; rfl
  | some i =>
    have hi := hp i rfl
    unfold cellX cellO
    have b0 : (0 : Nat) < 2147483648 := by omega
    have b1 : i < 2147483648 := by omega
    have b2 : n < 2147483648 := by omega
    have b3 : c < 2147483648 := by omega
    have b4 : (3 : Nat) < 2147483648 := by omega
    simp only [pl_some, Option.bind_some, N_lt b1 b0, N_lt b1 b2, N_lt b3 b0, N_lt b3 b4, Nat.not_lt_zero, if_false, hc, if_true, N_nat b1, N_nat b3]
theorem x_cellO (h : Gs μ g) (hn : Gn μ g) {p : Option Nat} {c : Nat} (hp : ∀ i, p = some i → i < 1000) (hc : c < 3) : jC d 88 [.ref g, .int (pl p), .int (N c)] μ = some (some (.int (pl (cellO (vN μ (xA g)) p c))), μ) := by
  rw [x_cellAt h hn, cellX_N hn.2 hp hc]
theorem cellO_lt {n c x : Nat} {p : Option Nat} (hn : n ≤ 8) (hc : c < 3) (h : cellO n p c = some x) : x < 24 ∧ x < n * 3 := by
  unfold cellO at h
  cases p with
  | none => cases h
  | some i =>
    simp only [Option.bind_some] at h
    split at h
    · cases h; omega
    · cases h
theorem x_keyAt (h : Gs μ g) (hn : Gn μ g) {i : Nat} (hi : i < 2147483648) : jC d 89 [.ref g, .int (N i)] μ = some (some (.int (keyO (rG μ (xA g)) i)), μ) := by
  obtain ⟨h1, h2, -⟩ := h
  obtain ⟨hn1, hn2⟩ := hn
  rw [jC_run (by decide)]
  show jR d 89 0 [.ref g, .int (N i)] [] μ = _
  unfold rG
  rw [keyO_mkL]
  generalize hm : vN μ (xA g) = n at *
  have b0 : n < 2147483648 := by omega
  simp only [b89_0, b89_21, b89_22, gI6, gR6, pI6, pR6, rv6, aI_eq, aB_eq, aR_eq, sI_eq, sB_eq, sR_eq, Option.bind_some, Option.bind_none, if_true, if_false, true_or, or_true, false_or, or_false, true_and, and_true, false_and, and_false, decide_eq_true_eq, decide_true, decide_false, eq_self, not_true_eq_false, not_false_eq_true, jfit0, N_lit, N_add, N_mul, NEG_eq, pl_none, pl_some, rf_some, rf_none, jun_ref, jun_null, ir_ref, ir_null, jr_rf, jun_rf, Option.toList_some, Option.toList_none, List.nil_append, List.cons_append, h1, h2, hn1, N_lt hi (show 0 < 2147483648 by decide), N_lt hi b0, Nat.not_lt_zero]
  by_cases hi2 : i < n
  · simp only [hi2, if_true, jinb_N hi, show i < 8 by omega, decide_true, Option.bind_some, N_nat hi]; rfl
  · simp only [hi2, if_false]
theorem x_keyAt_neg (h : Gs μ g) {x : Int32} (hx : x < N 0) : jC d 89 [.ref g, .int x] μ = some (some (.int (N 0)), μ) := by
  rw [jC_run (by decide)]
  show jR d 89 0 [.ref g, .int x] [] μ = _
  simp only [b89_0, b89_21, b89_22, aI_eq, aB_eq, aR_eq, sI_eq, sB_eq, sR_eq, Option.bind_some, Option.bind_none, if_true, if_false, true_or, or_true, false_or, or_false, true_and, and_true, false_and, and_false, decide_eq_true_eq, decide_true, decide_false, eq_self, not_true_eq_false, not_false_eq_true, jfit0, N_lit, N_add, N_mul, NEG_eq, pl_none, pl_some, rf_some, rf_none, jun_ref, jun_null, ir_ref, ir_null, jr_rf, jun_rf, Option.toList_some, Option.toList_none, List.nil_append, List.cons_append, hx]
theorem x_placeOf (h : Gs μ g) (hn : Gn μ g) (k : Int32) : jC d 92 [.ref g, .int k] μ = some (some (.int (pl (lfind k (rG μ (xA g))))), μ) := by
  obtain ⟨h1, h2, -⟩ := h
  obtain ⟨hn1, hn2⟩ := hn
  rw [jC_run (by decide)]
  show jR d 92 0 [.ref g, .int k, .retAddr 0] [] μ = _
  rw [b92_0]
  simp only [N_lit]
  have loop : ∀ m i, i + m = vN μ (xA g) → (∀ j, j < i → jiv μ (g + 1) j ≠ k) → jR d 92 2 [.ref g, .int k, .int (N i)] [] μ = some (some (.int (pl (lfind k (rG μ (xA g))))), μ) := by
    intro m
    induction m with
    | zero =>
      intro i hi hj
      have hi2 : i < 2147483648 := by omega
      rw [b92_2]
      simp only [gI6, gR6, pI6, pR6, rv6, aI_eq, aB_eq, aR_eq, sI_eq, sB_eq, sR_eq, Option.bind_some, Option.bind_none, if_true, if_false, true_or, or_true, false_or, or_false, true_and, and_true, false_and, and_false, decide_eq_true_eq, decide_true, decide_false, eq_self, not_true_eq_false, not_false_eq_true, jfit0, N_lit, N_add, N_mul, NEG_eq, pl_none, pl_some, rf_some, rf_none, jun_ref, jun_null, ir_ref, ir_null, jr_rf, jun_rf, Option.toList_some, Option.toList_none, List.nil_append, List.cons_append, h1, hn1, N_lt hi2 (show vN μ (xA g) < 2147483648 by omega), show ¬ i < vN μ (xA g) by omega]
      rw [show lfind k (rG μ (xA g)) = none from lfind_none (fun j hj2 => hj j (by omega))]; rfl
    | succ m ih =>
      intro i hi hj
      have hi2 : i < 2147483648 := by omega
      have hi3 : i < vN μ (xA g) := by omega
      rw [b92_2]
      simp only [gI6, gR6, pI6, pR6, rv6, aI_eq, aB_eq, aR_eq, sI_eq, sB_eq, sR_eq, Option.bind_some, Option.bind_none, if_true, if_false, true_or, or_true, false_or, or_false, true_and, and_true, false_and, and_false, decide_eq_true_eq, decide_true, decide_false, eq_self, not_true_eq_false, not_false_eq_true, jfit0, N_lit, N_add, N_mul, NEG_eq, pl_none, pl_some, rf_some, rf_none, jun_ref, jun_null, ir_ref, ir_null, jr_rf, jun_rf, Option.toList_some, Option.toList_none, List.nil_append, List.cons_append, h1, h2, hn1, N_lt hi2 (show vN μ (xA g) < 2147483648 by omega), hi3, jinb_N hi2, show i < 8 by omega, N_nat hi2]
      by_cases e : jiv μ (g + 1) i = k
      · rw [if_pos e]
        have e2 : lfind k (rG μ (xA g)) = some i := lfind_some hi3 hj e
        rw [e2]; rfl
      · rw [if_neg e]
        refine ih (i + 1) (by omega) (fun j hj2 => ?_)
        by_cases e3 : j = i
        · rw [e3]; exact e
        · exact hj j (by omega)
  exact loop (vN μ (xA g)) 0 (by omega) (fun j hj => absurd hj (Nat.not_lt_zero j))
end GRID
