/-! THE METHODS OF Grid: rows that come, go, move -/
theorem setI_setI_sw {μ : jM} {a i j : Nat} : jsetI (jsetI μ a i (jiv μ a j)) a j (jiv μ a i) = jrowI μ a (swf (jiv μ a) i j) := by
  refine Prod.ext rfl (Prod.ext rfl (Prod.ext ?_ rfl))
  funext b k
  show (if b = a ∧ k = j then _ else if b = a ∧ k = i then _ else _) = if b = a then swf (jiv μ a) i j k else _
  unfold swf
  by_cases e : b = a
  · subst e; simp only [true_and, if_true]; rfl
  · simp only [e, false_and, if_false]
theorem setR_setR_sw {μ : jM} {a i j : Nat} : jsetR (jsetR μ a i (jrv μ a j)) a j (jrv μ a i) = jrowR μ a (swf (jrv μ a) i j) := by
  refine Prod.ext rfl (Prod.ext rfl (Prod.ext rfl (Prod.ext ?_ rfl)))
  funext b k
  show (if b = a ∧ k = j then _ else if b = a ∧ k = i then _ else _) = if b = a then swf (jrv μ a) i j k else _
  unfold swf
  by_cases e : b = a
  · subst e; simp only [true_and, if_true]; rfl
  · simp only [e, false_and, if_false]
theorem setR_rowR {μ : jM} {a i : Nat} {f : Nat → Option Nat} {v : Option Nat} : jsetR (jrowR μ a f) a i v = jrowR μ a (updf f i v) := by
  refine Prod.ext rfl (Prod.ext rfl (Prod.ext rfl (Prod.ext ?_ rfl)))
  funext b k
  show (if b = a ∧ k = i then _ else if b = a then _ else _) = if b = a then updf f i v k else _
  unfold updf
  by_cases e : b = a
  · subst e; simp only [true_and, if_true]
  · simp only [e, false_and, if_false]
theorem rowR_id {μ : jM} {a : Nat} : jrowR μ a (jrv μ a) = μ := by
  refine Prod.ext rfl (Prod.ext rfl (Prod.ext rfl (Prod.ext ?_ rfl)))
  funext b k
  show (if b = a then _ else _) = _
  by_cases e : b = a
  · subst e; simp only [if_true]; rfl
  · simp only [e, if_false]
/-- the first i of the one, else of the other -/
def fmix {α : Type} (s o : Nat → α) (i : Nat) : Nat → α := fun j => if j < i then s j else o j
theorem fmix_zero {α : Type} {s o : Nat → α} : fmix s o 0 = o := by funext j; exact if_neg (Nat.not_lt_zero j)
theorem fmix_succ {α : Type} {s o : Nat → α} {i : Nat} : updf (fmix s o i) i (s i) = fmix s o (i + 1) := by
  funext j
  unfold updf fmix
  by_cases e : j = i
  · subst e; rw [if_pos rfl, if_pos (Nat.lt_succ_self _)]
  · rw [if_neg e]
    by_cases h : j < i
    · rw [if_pos h, if_pos (by omega)]
    · rw [if_neg h, if_neg (by omega)]
/-- two cells change places -/
def swc (μ : jM) (A : GA) (x y : Nat) : jM := jrowR (jrowI (jrowI (jrowI μ (A.1 2) (swf (jiv μ (A.1 2)) x y)) (A.1 3) (swf (jiv μ (A.1 3)) x y)) (A.1 5) (swf (jiv μ (A.1 5)) x y)) (A.1 4) (swf (jrv μ (A.1 4)) x y)
section SWC
variable {μ : jM} {A : GA} {x y : Nat}
theorem rc_swc (h : Aok A) : rc (swc μ A x y) A = swf (rc μ A) x y := by
  funext z
  simp only [rc, swc, ty_setI, ty_setR, ty_rowI, ty_rowR, jk_setI, jk_setR, jk_rowI, jk_rowR, jl_setI, jl_setR, jl_rowI, jl_rowR, sz_setI, sz_setR, sz_rowI, sz_rowR, ext_setI, ext_setR, iv_setI, iv_setR, iv_rowI, iv_rowR, rv_setI, rv_setR, rv_rowI, rv_rowR, iv_setIn, iv_rowIn, rv_setRn, rv_rowRn, iv_rowIe, rv_rowRe, h.ne (i := 2) (j := 5) (by decide) (by decide) (by decide), h.ne (i := 2) (j := 3) (by decide) (by decide) (by decide), h.ne (i := 3) (j := 5) (by decide) (by decide) (by decide), if_false, if_true]
  unfold swf
  by_cases e : z = y
  · simp only [e, if_true]; rfl
  · by_cases e2 : z = x
    · simp only [e, e2, if_true, if_false]
      split <;> rfl
    · simp only [e, e2, if_false]; rfl
theorem key_swc (h : Aok A) : jiv (swc μ A x y) (A.1 1) = jiv μ (A.1 1) := by
  funext z
  simp only [swc, ty_setI, ty_setR, ty_rowI, ty_rowR, jk_setI, jk_setR, jk_rowI, jk_rowR, jl_setI, jl_setR, jl_rowI, jl_rowR, sz_setI, sz_setR, sz_rowI, sz_rowR, ext_setI, ext_setR, iv_setI, iv_setR, iv_rowI, iv_rowR, rv_setI, rv_setR, rv_rowI, rv_rowR, iv_setIn, iv_rowIn, rv_setRn, rv_rowRn, iv_rowIe, rv_rowRe, h.ne (i := 1) (j := 5) (by decide) (by decide) (by decide), h.ne (i := 1) (j := 3) (by decide) (by decide) (by decide), h.ne (i := 1) (j := 2) (by decide) (by decide) (by decide), if_false]
theorem vN_swc (h : Aok A) : vN (swc μ A x y) A = vN μ A := by
  simp only [vN, swc, ty_setI, ty_setR, ty_rowI, ty_rowR, jk_setI, jk_setR, jk_rowI, jk_rowR, jl_setI, jl_setR, jl_rowI, jl_rowR, sz_setI, sz_setR, sz_rowI, sz_rowR, ext_setI, ext_setR, iv_setI, iv_setR, iv_rowI, iv_rowR, rv_setI, rv_setR, rv_rowI, rv_rowR, iv_setIn, iv_rowIn, rv_setRn, rv_rowRn, iv_rowIe, rv_rowRe, h.ne (i := 0) (j := 5) (by decide) (by decide) (by decide), h.ne (i := 0) (j := 3) (by decide) (by decide) (by decide), h.ne (i := 0) (j := 2) (by decide) (by decide) (by decide), if_false]
/-- all three columns of two rows, and their keys -/
def swr (μ : jM) (A : GA) (i j : Nat) : jM := swc (swc (swc (jrowI μ (A.1 1) (swf (jiv μ (A.1 1)) i j)) A (i * 3) (j * 3)) A (i * 3 + 1) (j * 3 + 1)) A (i * 3 + 2) (j * 3 + 2)
theorem sw3 {α : Type} {f : Nat → α} {i j k b : Nat} (hb : b < 3) : swf (swf (swf f (i * 3) (j * 3)) (i * 3 + 1) (j * 3 + 1)) (i * 3 + 2) (j * 3 + 2) (k * 3 + b) = if k = j then f (i * 3 + b) else if k = i then f (j * 3 + b) else f (k * 3 + b) := by
  have e : ∀ m c, c < 3 → (k * 3 + b = m * 3 + c ↔ k = m ∧ b = c) := fun m c hc => ⟨fun h => by omega, fun h => by omega⟩
  have e0 : ∀ m, (k * 3 + b = m * 3 ↔ k = m ∧ b = 0) := fun m => e m 0 (by omega)
  have g : ∀ m m' c c', c < 3 → c' < 3 → (m * 3 + c = m' * 3 + c' ↔ m = m' ∧ c = c') := fun m m' c c' h h' => ⟨fun q => by omega, fun q => by omega⟩
  have g0 : ∀ m m' c', c' < 3 → (m * 3 = m' * 3 + c' ↔ m = m' ∧ 0 = c') := fun m m' c' h => g m m' 0 c' (by omega) h
  have g1 : ∀ m m' c, c < 3 → (m * 3 + c = m' * 3 ↔ m = m' ∧ c = 0) := fun m m' c h => g m m' c 0 h (by omega)
  have g2 : ∀ m m', (m * 3 = m' * 3 ↔ m = m') := fun m m' => ⟨fun q => by omega, fun q => by omega⟩
  unfold swf
  obtain rfl | rfl | rfl : b = 0 ∨ b = 1 ∨ b = 2 := by omega
  all_goals
    by_cases h1 : k = j
    · subst h1
      by_cases h2 : i = k
      · subst h2; simp
      · have h2' : ¬ k = i := fun q => h2 q.symm
        simp [g, g0, g1, g2, h2, h2']
    · have h1' : ¬ j = k := fun q => h1 q.symm
      by_cases h2 : k = i
      · subst h2; simp [g, g0, g1, g2, h1, h1']
      · simp [g, g0, g1, g2, h1, h2]
theorem rG_swr (h : Aok A) {i j : Nat} (hi : i < vN μ A) (hj : j < vN μ A) : rG (swr μ A i j) A = lswap (rG μ A) i j ∧ vN (swr μ A i j) A = vN μ A := by
  have e1 : vN (jrowI μ (A.1 1) (swf (jiv μ (A.1 1)) i j)) A = vN μ A := by
    simp only [vN, ty_setI, ty_setR, ty_rowI, ty_rowR, jk_setI, jk_setR, jk_rowI, jk_rowR, jl_setI, jl_setR, jl_rowI, jl_rowR, sz_setI, sz_setR, sz_rowI, sz_rowR, ext_setI, ext_setR, iv_setI, iv_setR, iv_rowI, iv_rowR, rv_setI, rv_setR, rv_rowI, rv_rowR, iv_setIn, iv_rowIn, rv_setRn, rv_rowRn, iv_rowIe, rv_rowRe, h.ne (i := 0) (j := 1) (by decide) (by decide) (by decide), if_false]
  have e2 : rc (jrowI μ (A.1 1) (swf (jiv μ (A.1 1)) i j)) A = rc μ A := by
    funext z
    simp only [rc, ty_setI, ty_setR, ty_rowI, ty_rowR, jk_setI, jk_setR, jk_rowI, jk_rowR, jl_setI, jl_setR, jl_rowI, jl_rowR, sz_setI, sz_setR, sz_rowI, sz_rowR, ext_setI, ext_setR, iv_setI, iv_setR, iv_rowI, iv_rowR, rv_setI, rv_setR, rv_rowI, rv_rowR, iv_setIn, iv_rowIn, rv_setRn, rv_rowRn, iv_rowIe, rv_rowRe, h.ne (i := 2) (j := 1) (by decide) (by decide) (by decide), h.ne (i := 3) (j := 1) (by decide) (by decide) (by decide), h.ne (i := 5) (j := 1) (by decide) (by decide) (by decide), if_false]
  have e3 : jiv (jrowI μ (A.1 1) (swf (jiv μ (A.1 1)) i j)) (A.1 1) = swf (jiv μ (A.1 1)) i j := by
    funext z
    simp only [ty_setI, ty_setR, ty_rowI, ty_rowR, jk_setI, jk_setR, jk_rowI, jk_rowR, jl_setI, jl_setR, jl_rowI, jl_rowR, sz_setI, sz_setR, sz_rowI, sz_rowR, ext_setI, ext_setR, iv_setI, iv_setR, iv_rowI, iv_rowR, rv_setI, rv_setR, rv_rowI, rv_rowR, iv_setIn, iv_rowIn, rv_setRn, rv_rowRn, iv_rowIe, rv_rowRe, if_true]
  have ev : vN (swr μ A i j) A = vN μ A := by
    unfold swr
    rw [vN_swc h, vN_swc h, vN_swc h, e1]
  refine ⟨?_, ev⟩
  unfold rG
  rw [ev]
  unfold swr
  rw [key_swc h, key_swc h, key_swc h, e3, rc_swc h, rc_swc h, rc_swc h, e2]
  exact mkL_swap hi hj (fun k b hb => sw3 hb)
end SWC
section MOVES
variable {α : Type}
def lup (l : List α) (i : Nat) : Nat → List α
  | 0 => l
  | k + 1 => lup (lswap l i (i + 1)) (i + 1) k
def ldn (l : List α) (i : Nat) : Nat → List α
  | 0 => l
  | k + 1 => ldn (lswap l i (i - 1)) (i - 1) k
def lmove (l : List α) (p t : Nat) : List α := if p < t then lup l p (t - p) else ldn l p (p - t)
theorem len_lswap {l : List α} {i j : Nat} : (lswap l i j).length = l.length := by
  unfold lswap
  split <;> simp
theorem len_lup {l : List α} {i k : Nat} : (lup l i k).length = l.length := by
  induction k generalizing l i with
  | zero => rfl
  | succ k ih => unfold lup; rw [ih, len_lswap]
theorem len_ldn {l : List α} {i k : Nat} : (ldn l i k).length = l.length := by
  induction k generalizing l i with
  | zero => rfl
  | succ k ih => unfold ldn; rw [ih, len_lswap]
theorem len_lmove {l : List α} {p t : Nat} : (lmove l p t).length = l.length := by
  unfold lmove
  split
  · exact len_lup
  · exact len_ldn
theorem lswap_ins {m : List α} {i : Nat} {x : α} (h : i < m.length) : lswap (m.insertIdx i x) i (i + 1) = m.insertIdx (i + 1) x ∧ lswap (m.insertIdx (i + 1) x) (i + 1) i = m.insertIdx i x := by
  have hl : (m.insertIdx i x).length = m.length + 1 := by rw [List.length_insertIdx, if_pos (by omega)]
  have hl' : (m.insertIdx (i + 1) x).length = m.length + 1 := by rw [List.length_insertIdx, if_pos (by omega)]
  have a1 : (m.insertIdx i x)[i]? = some x := by simp [List.getElem?_insertIdx, show i ≤ m.length by omega]
  have a2 : (m.insertIdx i x)[i + 1]? = some m[i] := by
    rw [List.getElem?_insertIdx, if_neg (by omega), if_neg (by omega), Nat.add_sub_cancel]
    exact List.getElem?_eq_getElem h
  have b1 : (m.insertIdx (i + 1) x)[i + 1]? = some x := by simp [List.getElem?_insertIdx, show i + 1 ≤ m.length by omega]
  have b2 : (m.insertIdx (i + 1) x)[i]? = some m[i] := by
    rw [List.getElem?_insertIdx, if_pos (by omega)]
    exact List.getElem?_eq_getElem h
  constructor
  · unfold lswap
    rw [a1, a2]
    apply List.ext_getElem?
    intro k
    simp only [List.getElem?_set, List.length_set, hl]
    rw [List.getElem?_insertIdx, List.getElem?_insertIdx]
    by_cases e1 : i + 1 = k
    · subst e1; simp [show i + 1 < m.length + 1 by omega, show i + 1 ≤ m.length by omega]
    · by_cases e2 : i = k
      · subst e2; simp [show i < m.length + 1 by omega, List.getElem?_eq_getElem h]
      · by_cases e3 : k < i
        · simp [e1, e2, e3, show k < i + 1 by omega]
        · simp [e1, e2, e3, show ¬ k < i + 1 by omega, show ¬ k = i by omega, show ¬ k = i + 1 by omega]
  · unfold lswap
    rw [b1, b2]
    apply List.ext_getElem?
    intro k
    simp only [List.getElem?_set, List.length_set, hl']
    rw [List.getElem?_insertIdx, List.getElem?_insertIdx]
    by_cases e1 : i + 1 = k
    · subst e1; simp [show i + 1 < m.length + 1 by omega, List.getElem?_eq_getElem h, show ¬ i + 1 < i by omega]
    · by_cases e2 : i = k
      · subst e2; simp [show i < m.length + 1 by omega, show i ≤ m.length by omega]
      · by_cases e3 : k < i
        · simp [e1, e2, e3, show k < i + 1 by omega]
        · simp [e1, e2, e3, show ¬ k < i + 1 by omega, show ¬ k = i by omega, show ¬ k = i + 1 by omega]
theorem ldn_ins {m : List α} {x : α} : ∀ (k i : Nat), k ≤ i → i ≤ m.length → ldn (m.insertIdx i x) i k = m.insertIdx (i - k) x
  | 0, i, _, _ => rfl
  | k + 1, i, h1, h2 => by
    unfold ldn
    obtain ⟨j, rfl⟩ : ∃ j, i = j + 1 := ⟨i - 1, by omega⟩
    rw [Nat.add_sub_cancel, (lswap_ins (by omega)).2, ldn_ins k j (by omega) (by omega)]
    congr 1; omega
theorem lup_ins {m : List α} {x : α} : ∀ (k i : Nat), i + k ≤ m.length → lup (m.insertIdx i x) i k = m.insertIdx (i + k) x
  | 0, i, _ => rfl
  | k + 1, i, h2 => by
    unfold lup
    rw [(lswap_ins (by omega)).1, lup_ins k (i + 1) (by omega)]
    congr 1; omega
theorem ins_len {m : List α} {x : α} : m.insertIdx m.length x = m ++ [x] := by
  induction m with
  | nil => rfl
  | cons a m ih => show a :: m.insertIdx m.length x = a :: (m ++ [x]); rw [ih]
theorem ins_erase {l : List α} {p : Nat} (h : p < l.length) : (l.eraseIdx p).insertIdx p l[p] = l := by
  induction l generalizing p with
  | nil => cases h
  | cons a l ih =>
    cases p with
    | zero => rfl
    | succ p =>
      have h' : p < l.length := by simpa using h
      show a :: (l.eraseIdx p).insertIdx p (l[p]'h') = a :: l
      rw [ih h']
/-- a row laid behind all and moved to its place -/
theorem lmove_in {m : List α} {x : α} {t : Nat} (h : t ≤ m.length) : lmove (m ++ [x]) m.length t = m.insertIdx t x := by
  unfold lmove
  rw [if_neg (by omega), ← ins_len, ldn_ins _ _ (by omega) (by omega)]
  congr 1; omega
/-- a row moved behind all and taken away -/
theorem lmove_out {l : List α} {p : Nat} (h : p < l.length) : (lmove l p (l.length - 1)).take (l.length - 1) = l.eraseIdx p := by
  have hle : (l.eraseIdx p).length = l.length - 1 := by rw [List.length_eraseIdx, if_pos h]
  have e : lmove l p (l.length - 1) = l.eraseIdx p ++ [l[p]] := by
    unfold lmove
    by_cases hp : p < l.length - 1
    · rw [if_pos hp]
      have h1 := lup_ins (m := l.eraseIdx p) (x := l[p]) (l.length - 1 - p) p (by omega)
      rw [ins_erase h] at h1
      rw [h1, show p + (l.length - 1 - p) = (l.eraseIdx p).length by omega, ins_len]
    · rw [if_neg hp, show p - (l.length - 1) = 0 by omega]
      show l = _
      have h1 := ins_erase h
      rw [show l.eraseIdx p ++ [l[p]] = (l.eraseIdx p).insertIdx (l.eraseIdx p).length l[p] from ins_len.symm, show (l.eraseIdx p).length = p by omega]
      exact h1.symm
  rw [e, ← hle, List.take_left]
end MOVES
section GRID
variable {μ μ' : jM} {g h d : Nat}
theorem x_become (hs : Gs μ g) (hs' : Gs μ h) (hn' : Gn μ h) (hd : g + 6 ≤ h ∨ h + 6 ≤ g) : ∃ μ', jC (d + 1) 90 [.ref g, .ref h] μ = some (none, μ') ∧ FG g μ μ' ∧ Gs μ' g ∧ Gn μ' g ∧ rG μ' (xA g) = rG μ (xA h) := by
  have n0 : (0 : Nat) < 2147483648 := by decide
  have n8 : (8 : Nat) < 2147483648 := by decide
  have n24 : (24 : Nat) < 2147483648 := by decide
  have e1 : ∀ a b : Nat, a < 6 → b < 6 → (h + a = g + b) = False := fun a b ha hb => eq_false (by omega)
  have e2 : ∀ b : Nat, b < 6 → (h = g + b) = False := fun b hb => eq_false (by omega)
  have e3 : ∀ b : Nat, b < 6 → (h + b = g) = False := fun b hb => eq_false (by omega)
  have f1 : ∀ b : Nat, 0 < b → (g = g + b) = False := fun b hb => eq_false (by omega)
  have f2 : ∀ a b : Nat, a ≠ b → (g + a = g + b) = False := fun a b hab => eq_false (by omega)
  have f3 : ∀ b : Nat, 0 < b → (g + b = g) = False := fun b hb => eq_false (by omega)
  obtain ⟨m, hm⟩ : ∃ m, m = jrowI (jrowI (jrowI (jrowI (jsetI μ g 0 (jiv μ h 0)) (g + 1) (va_cpy (jiv μ (h + 1)) (jiv μ (g + 1)) 0 0 8)) (g + 2) (va_cpy (jiv μ (h + 2)) (jiv μ (g + 2)) 0 0 24)) (g + 3) (va_cpy (jiv μ (h + 3)) (jiv μ (g + 3)) 0 0 24)) (g + 5) (va_cpy (jiv μ (h + 5)) (jiv μ (g + 5)) 0 0 24) := ⟨_, rfl⟩
  have mk : jk m = jk μ := by rw [hm]; rfl
  have ml : jl m = jl μ := by rw [hm]; rfl
  have mr : jrv m = jrv μ := by rw [hm]; rfl
  have loop : ∀ k i, i + k = 24 → jR (d + 1) 90 70 [.ref g, .ref h, .int (N i)] [] (jrowR m (g + 4) (fmix (jrv μ (h + 4)) (jrv μ (g + 4)) i)) = some (none, jrowR m (g + 4) (fmix (jrv μ (h + 4)) (jrv μ (g + 4)) 24)) := by
    intro k
    induction k with
    | zero =>
      intro i hi
      have hi : i = 24 := hi
      subst hi
      rw [b90_70 (h1 := ir_ref)]
      simp only [aI_eq, aB_eq, aR_eq, sI_eq, sB_eq, sR_eq, Option.bind_some, Option.bind_none, if_true, if_false, true_or, or_true, false_or, or_false, true_and, and_true, false_and, and_false, decide_eq_true_eq, decide_true, decide_false, eq_self, not_true_eq_false, not_false_eq_true, jfit0, N_lit, N_add, N_mul, NEG_eq, pl_none, pl_some, rf_some, rf_none, jun_ref, jun_null, ir_ref, ir_null, jr_rf, jun_rf, Option.toList_some, Option.toList_none, List.nil_append, List.cons_append, N_lt n24 n24, Nat.lt_irrefl]
    | succ k ih =>
      intro i hi
      have hi2 : i < 2147483648 := by omega
      have hi3 : i < 24 := by omega
      rw [b90_70 (h1 := ir_ref)]
      simp only [gI6, gR6, pI6, pR6, rv6, aI_eq, aB_eq, aR_eq, sI_eq, sB_eq, sR_eq, Option.bind_some, Option.bind_none, if_true, if_false, true_or, or_true, false_or, or_false, true_and, and_true, false_and, and_false, decide_eq_true_eq, decide_true, decide_false, eq_self, not_true_eq_false, not_false_eq_true, jfit0, N_lit, N_add, N_mul, NEG_eq, pl_none, pl_some, rf_some, rf_none, jun_ref, jun_null, ir_ref, ir_null, jr_rf, jun_rf, Option.toList_some, Option.toList_none, List.nil_append, List.cons_append, ty_setI, ty_setR, ty_rowI, ty_rowR, jk_setI, jk_setR, jk_rowI, jk_rowR, jl_setI, jl_setR, jl_rowI, jl_rowR, sz_setI, sz_setR, sz_rowI, sz_rowR, ext_setI, ext_setR, iv_setI, iv_setR, iv_rowI, iv_rowR, rv_setI, rv_setR, rv_rowI, rv_rowR, iv_setIn, iv_rowIn, rv_setRn, rv_rowRn, iv_rowIe, rv_rowRe, N_lt hi2 n24, hi3, hs.1, hs.2.1, hs'.1, hs'.2.1, mk, ml, mr, e1, e2, f1, f2, jinb_N hi2, N_nat hi2, show 30 ≤ 30 ∧ 30 < 36 by decide, show (4 : Nat) < 6 by decide, show 0 < 4 by decide]
      rw [if_pos (jokel_rf (fun b hb => by simp only [ty_setI, ty_setR, ty_rowI, ty_rowR, jk_setI, jk_setR, jk_rowI, jk_rowR, jl_setI, jl_setR, jl_rowI, jl_rowR, sz_setI, sz_setR, sz_rowI, sz_rowR, ext_setI, ext_setR, iv_setI, iv_setR, iv_rowI, iv_rowR, rv_setI, rv_setR, rv_rowI, rv_rowR, iv_setIn, iv_rowIn, rv_setRn, rv_rowRn, iv_rowIe, rv_rowRe, mk]; exact hs'.2.2 i b hb))]
      simp only [aI_eq, aB_eq, aR_eq, sI_eq, sB_eq, sR_eq, Option.bind_some, Option.bind_none, if_true, if_false, true_or, or_true, false_or, or_false, true_and, and_true, false_and, and_false, decide_eq_true_eq, decide_true, decide_false, eq_self, not_true_eq_false, not_false_eq_true, jfit0, N_lit, N_add, N_mul, NEG_eq, pl_none, pl_some, rf_some, rf_none, jun_ref, jun_null, ir_ref, ir_null, jr_rf, jun_rf, Option.toList_some, Option.toList_none, List.nil_append, List.cons_append]
      rw [setR_rowR, fmix_succ]
      exact ih (i + 1) (by omega)
  have run : jC (d + 1) 90 [.ref g, .ref h] μ = some (none, jrowR m (g + 4) (fmix (jrv μ (h + 4)) (jrv μ (g + 4)) 24)) := by
    rw [jC_run (by decide)]
    show jR (d + 1) 90 0 [.ref g, .ref h, .retAddr 0] [] μ = _
    rw [b90_0 (h1 := ir_ref)]
    have c8 : (0 : Int32) ≤ 8 := by decide
    have c24 : (0 : Int32) ≤ 24 := by decide
    simp only [gI6, gR6, pI6, pR6, rv6, aI_eq, Option.bind_some, if_true, true_and, jfit0, rf_some, ty_setI, ty_setR, ty_rowI, ty_rowR, jk_setI, jk_setR, jk_rowI, jk_rowR, jl_setI, jl_setR, jl_rowI, jl_rowR, sz_setI, sz_setR, sz_rowI, sz_rowR, ext_setI, ext_setR, iv_setI, iv_setR, iv_rowI, iv_rowR, rv_setI, rv_setR, rv_rowI, rv_rowR, iv_setIn, iv_rowIn, rv_setRn, rv_rowRn, iv_rowIe, rv_rowRe, cp_eq, hs.1, hs.2.1, hs'.1, hs'.2.1, e1, e2, f1, f2, f3, c8, c24, Int32.le_refl, true_or, if_false, and_true, not_false_eq_true, ne_eq, show ¬ h + 1 = g by omega, show ¬ h + 2 = g by omega, show ¬ h + 3 = g by omega, show ¬ h + 5 = g by omega, show ¬ g + 1 = g by omega, show ¬ g + 2 = g by omega, show ¬ g + 3 = g by omega, show ¬ g + 5 = g by omega, show ¬ g + 2 = g + 1 by omega, show ¬ g + 3 = g + 1 by omega, show ¬ g + 3 = g + 2 by omega, show ¬ g + 5 = g + 1 by omega, show ¬ g + 5 = g + 2 by omega, show ¬ g + 5 = g + 3 by omega, show (0 : Int32).toNatClampNeg = 0 from rfl, show (8 : Int32).toNatClampNeg = 8 from rfl, show (24 : Int32).toNatClampNeg = 24 from rfl, Nat.zero_add, Nat.le_refl, show (1 : Nat) < 6 by decide, show (2 : Nat) < 6 by decide, show (3 : Nat) < 6 by decide, show (4 : Nat) < 6 by decide, show (5 : Nat) < 6 by decide, show (0 : Nat) < 1 by decide, show (0 : Nat) < 2 by decide, show (0 : Nat) < 3 by decide, show (0 : Nat) < 4 by decide, show (0 : Nat) < 5 by decide, show (2 : Nat) ≠ 1 by decide, show (3 : Nat) ≠ 1 by decide, show (3 : Nat) ≠ 2 by decide, show (5 : Nat) ≠ 1 by decide, show (5 : Nat) ≠ 2 by decide, show (5 : Nat) ≠ 3 by decide]
    have hl := loop 24 0 rfl
    rw [fmix_zero] at hl
    rw [← hl, hm]
    rw [show (jrowR (jrowI (jrowI (jrowI (jrowI (jsetI μ g 0 (jiv μ h 0)) (g + 1) (va_cpy (jiv μ (h + 1)) (jiv μ (g + 1)) 0 0 8)) (g + 2) (va_cpy (jiv μ (h + 2)) (jiv μ (g + 2)) 0 0 24)) (g + 3) (va_cpy (jiv μ (h + 3)) (jiv μ (g + 3)) 0 0 24)) (g + 5) (va_cpy (jiv μ (h + 5)) (jiv μ (g + 5)) 0 0 24)) (g + 4) (jrv μ (g + 4))) = _ from rowR_id]
    rfl
  have hfg : FG g μ (jrowR m (g + 4) (fmix (jrv μ (h + 4)) (jrv μ (g + 4)) 24)) := by
    rw [hm]
    exact (((((Fx.refl.setI (by show g ≤ g ∧ g < g + 6; omega)).rowI (by show g ≤ g + 1 ∧ g + 1 < g + 6; omega)).rowI (by show g ≤ g + 2 ∧ g + 2 < g + 6; omega)).rowI (by show g ≤ g + 3 ∧ g + 3 < g + 6; omega)).rowI (by show g ≤ g + 5 ∧ g + 5 < g + 6; omega)).rowR (fun _ => rfl)
  have hv : vN (jrowR m (g + 4) (fmix (jrv μ (h + 4)) (jrv μ (g + 4)) 24)) (xA g) = vN μ (xA h) := by
    rw [hm]
    simp only [vN, xA, ty_setI, ty_setR, ty_rowI, ty_rowR, jk_setI, jk_setR, jk_rowI, jk_rowR, jl_setI, jl_setR, jl_rowI, jl_rowR, sz_setI, sz_setR, sz_rowI, sz_rowR, ext_setI, ext_setR, iv_setI, iv_setR, iv_rowI, iv_rowR, rv_setI, rv_setR, rv_rowI, rv_rowR, iv_setIn, iv_rowIn, rv_setRn, rv_rowRn, iv_rowIe, rv_rowRe, f1, show (0 : Nat) < 5 by decide, show (0 : Nat) < 3 by decide, show (0 : Nat) < 2 by decide, show (0 : Nat) < 1 by decide, if_false, Nat.add_zero, true_and, if_true]
  refine ⟨_, run, hfg, ?_, ?_, ?_⟩
  · refine hfg.gs (fun j b hb => ?_) hs
    simp only [ty_setI, ty_setR, ty_rowI, ty_rowR, jk_setI, jk_setR, jk_rowI, jk_rowR, jl_setI, jl_setR, jl_rowI, jl_rowR, sz_setI, sz_setR, sz_rowI, sz_rowR, ext_setI, ext_setR, iv_setI, iv_setR, iv_rowI, iv_rowR, rv_setI, rv_setR, rv_rowI, rv_rowR, iv_setIn, iv_rowIn, rv_setRn, rv_rowRn, iv_rowIe, rv_rowRe, if_true] at hb
    unfold fmix at hb
    split at hb
    · exact hs'.2.2 j b hb
    · exact hs.2.2 j b hb
  · unfold Gn
    rw [hv]
    refine ⟨?_, hn'.2⟩
    rw [hm]
    simp only [ty_setI, ty_setR, ty_rowI, ty_rowR, jk_setI, jk_setR, jk_rowI, jk_rowR, jl_setI, jl_setR, jl_rowI, jl_rowR, sz_setI, sz_setR, sz_rowI, sz_rowR, ext_setI, ext_setR, iv_setI, iv_setR, iv_rowI, iv_rowR, rv_setI, rv_setR, rv_rowI, rv_rowR, iv_setIn, iv_rowIn, rv_setRn, rv_rowRn, iv_rowIe, rv_rowRe, f1, show (0 : Nat) < 5 by decide, show (0 : Nat) < 3 by decide, show (0 : Nat) < 2 by decide, show (0 : Nat) < 1 by decide, if_false, true_and, if_true]
    exact hn'.1
  · have hn8 := hn'.2
    unfold rG
    rw [hv]
    refine mkL_congr (fun i hi => ?_) (fun i hi => ?_)
    · rw [hm]
      simp only [xA, ty_setI, ty_setR, ty_rowI, ty_rowR, jk_setI, jk_setR, jk_rowI, jk_rowR, jl_setI, jl_setR, jl_rowI, jl_rowR, sz_setI, sz_setR, sz_rowI, sz_rowR, ext_setI, ext_setR, iv_setI, iv_setR, iv_rowI, iv_rowR, rv_setI, rv_setR, rv_rowI, rv_rowR, iv_setIn, iv_rowIn, rv_setRn, rv_rowRn, iv_rowIe, rv_rowRe, f2, show (1 : Nat) ≠ 5 by decide, show (1 : Nat) ≠ 3 by decide, show (1 : Nat) ≠ 2 by decide, ne_eq, not_false_eq_true, if_false, if_true]
      unfold va_cpy
      rw [if_pos (by omega)]
      congr 1; omega
    · rw [hm]
      unfold rc
      simp only [xA, ty_setI, ty_setR, ty_rowI, ty_rowR, jk_setI, jk_setR, jk_rowI, jk_rowR, jl_setI, jl_setR, jl_rowI, jl_rowR, sz_setI, sz_setR, sz_rowI, sz_rowR, ext_setI, ext_setR, iv_setI, iv_setR, iv_rowI, iv_rowR, rv_setI, rv_setR, rv_rowI, rv_rowR, iv_setIn, iv_rowIn, rv_setRn, rv_rowRn, iv_rowIe, rv_rowRe, f2, show (2 : Nat) ≠ 5 by decide, show (2 : Nat) ≠ 3 by decide, show (3 : Nat) ≠ 5 by decide, ne_eq, not_false_eq_true, if_false, if_true]
      unfold va_cpy fmix
      rw [if_pos (by omega), if_pos (by omega), if_pos (by omega), if_pos (by omega), show 0 + (i - 0) = i by omega]
theorem x_swap {a i j : Nat} (hk : jk μ a = 20) (hi : i < jl μ a) (hj : j < jl μ a) (hl : jl μ a < 2147483648) : jC d 97 [.ref a, .int (N i), .int (N j)] μ = some (none, jrowI μ a (swf (jiv μ a) i j)) := by
  rw [jC_run (by decide)]
  show jR d 97 0 [.ref a, .int (N i), .int (N j), .retAddr 0] [] μ = _
  have b1 : i < 2147483648 := by omega
  have b2 : j < 2147483648 := by omega
  rw [b97_0 (h0 := ir_ref)]
  simp only [aI_eq, aB_eq, aR_eq, sI_eq, sB_eq, sR_eq, Option.bind_some, Option.bind_none, if_true, if_false, true_or, or_true, false_or, or_false, true_and, and_true, false_and, and_false, decide_eq_true_eq, decide_true, decide_false, eq_self, not_true_eq_false, not_false_eq_true, jfit0, N_lit, N_add, N_mul, NEG_eq, pl_none, pl_some, rf_some, rf_none, jun_ref, jun_null, ir_ref, ir_null, jr_rf, jun_rf, Option.toList_some, Option.toList_none, List.nil_append, List.cons_append, ty_setI, ty_setR, ty_rowI, ty_rowR, jk_setI, jk_setR, jk_rowI, jk_rowR, jl_setI, jl_setR, jl_rowI, jl_rowR, sz_setI, sz_setR, sz_rowI, sz_rowR, ext_setI, ext_setR, iv_setI, iv_setR, iv_rowI, iv_rowR, rv_setI, rv_setR, rv_rowI, rv_rowR, iv_setIn, iv_rowIn, rv_setRn, rv_rowRn, iv_rowIe, rv_rowRe, hk, jinb_N b1, jinb_N b2, hi, hj, N_nat b1, N_nat b2]
  rw [setI_setI_sw]
end GRID
