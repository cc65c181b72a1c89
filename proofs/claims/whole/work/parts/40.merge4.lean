/-! MERGING: rows, all of it -/
def pCell (R : Nat → Nat × Nat) (gb gx gt : DG) (ob ox ot : Option Nat) (c : Nat) : DC :=
  ((pCont (R c) (cO [] gb ob c) (cO [] gx ox c) (cO [] gt ot c)).1.1, (pCont (R c) (cO [] gb ob c) (cO [] gx ox c) (cO [] gt ot c)).1.2.1, (pCont (R c) (cO [] gb ob c) (cO [] gx ox c) (cO [] gt ot c)).1.2.2, (pNote (cO [] gb ob c).2.2.2 (cO [] gx ox c).2.2.2 (cO [] gt ot c).2.2.2).1)
def pClc (R : Nat → Nat × Nat) (gb gx gt : DG) (ob ox ot : Option Nat) (k : Int32) (c : Nat) : List CL :=
  (if (pCont (R c) (cO [] gb ob c) (cO [] gx ox c) (cO [] gt ot c)).2 then [(N 1, k, N c, N 0)] else []) ++ (if (pNote (cO [] gb ob c).2.2.2 (cO [] gx ox c).2.2.2 (cO [] gt ot c).2.2.2).2 then [(N 3, k, N c, N 0)] else [])
/-- a merged row's cells -/
def pRowC (R : Nat → Nat × Nat) (gb gx gt : DG) (k : Int32) (c : Nat) : DC :=
  if lfind k gx = none then cO [] gt (lfind k gt) c else if lfind k gt = none then cO [] gx (lfind k gx) c else pCell R gb gx gt (lfind k gb) (lfind k gx) (lfind k gt) c
def pRowK (R : Nat → Nat × Nat) (gb gx gt : DG) (k : Int32) : List CL :=
  if lfind k gx = none ∨ lfind k gt = none then (if lfind k gb = none then [] else [(N 2, k, NEG, N 0)]) else pClc R gb gx gt (lfind k gb) (lfind k gx) (lfind k gt) k 0 ++ pClc R gb gx gt (lfind k gb) (lfind k gx) (lfind k gt) k 1 ++ pClc R gb gx gt (lfind k gb) (lfind k gx) (lfind k gt) k 2
def pRows (R : Nat → Nat × Nat) (gb gx gt W : DG) : Nat → DG
  | 0 => W
  | n + 1 => match lfind (N (n + 1)) W with
    | none => pRows R gb gx gt W n
    | some i => lrow (pRows R gb gx gt W n) i (pRowC R gb gx gt (N (n + 1)) 0) (pRowC R gb gx gt (N (n + 1)) 1) (pRowC R gb gx gt (N (n + 1)) 2)
def pCls (R : Nat → Nat × Nat) (gb gx gt W : DG) : Nat → List CL
  | 0 => []
  | n + 1 => match lfind (N (n + 1)) W with
    | none => pCls R gb gx gt W n
    | some _ => pCls R gb gx gt W n ++ pRowK R gb gx gt (N (n + 1))
/-- what merge() would make -/
noncomputable def pMerge (R : Nat → Nat × Nat) (gb gx gt : DG) : Option (DG × List CL) := (thW gb gx gt (gt.map fun w => w.1) (mineW gb gx gt gx) 0).map fun W => (pRows R gb gx gt W 99, pCls R gb gx gt W 99)
theorem len_pClc {R : Nat → Nat × Nat} {gb gx gt : DG} {ob ox ot : Option Nat} {k : Int32} {c : Nat} : (pClc R gb gx gt ob ox ot k c).length ≤ 2 := by
  unfold pClc
  rw [List.length_append]
  split <;> split <;> simp
theorem len_pRowK {R : Nat → Nat × Nat} {gb gx gt : DG} {k : Int32} : (pRowK R gb gx gt k).length ≤ 6 := by
  unfold pRowK
  split
  · split <;> simp
  · rw [List.length_append, List.length_append]
    have h0 := len_pClc (R := R) (gb := gb) (gx := gx) (gt := gt) (ob := lfind k gb) (ox := lfind k gx) (ot := lfind k gt) (k := k) (c := 0)
    have h1 := len_pClc (R := R) (gb := gb) (gx := gx) (gt := gt) (ob := lfind k gb) (ox := lfind k gx) (ot := lfind k gt) (k := k) (c := 1)
    have h2 := len_pClc (R := R) (gb := gb) (gx := gx) (gt := gt) (ob := lfind k gb) (ox := lfind k gx) (ot := lfind k gt) (k := k) (c := 2)
    omega
/-- keys alone tell places -/
theorem lfind_keys {l l' : DG} (h : l.map (fun w => w.1) = l'.map (fun w => w.1)) (k : Int32) : lfind k l = lfind k l' := by
  have e : ∀ l : DG, lfind k l = (l.map (fun w => w.1)).findIdx? (fun y => y == k) := by
    intro l
    unfold lfind
    rw [List.findIdx?_map]; rfl
  rw [e l, e l', h]
theorem keys_lrow {l : DG} {i : Nat} {a b c : DC} : (lrow l i a b c).map (fun w => w.1) = l.map (fun w => w.1) := by
  unfold lrow
  apply List.ext_getElem?
  intro j
  simp only [List.getElem?_map, List.getElem?_modify]
  cases l[j]? with
  | none => rfl
  | some w =>
    simp only [Option.map_eq_map, Option.map_some]
    split <;> rfl
theorem keys_pRows {R : Nat → Nat × Nat} {gb gx gt W : DG} : ∀ n, (pRows R gb gx gt W n).map (fun w => w.1) = W.map (fun w => w.1)
  | 0 => rfl
  | n + 1 => by
    unfold pRows
    cases lfind (N (n + 1)) W with
    | none => exact keys_pRows n
    | some i => simp only; rw [keys_lrow]; exact keys_pRows n
theorem countP_more {α : Type} {p q : α → Bool} : ∀ {l : List α}, (∀ w, p w = true → q w = true) → (∃ w ∈ l, q w = true ∧ p w = false) → l.countP p + 1 ≤ l.countP q
  | [], _, h => by obtain ⟨w, hw, -⟩ := h; cases hw
  | a :: l, hpq, ⟨w, hw, h1, h2⟩ => by
    have mono : ∀ l : List α, l.countP p ≤ l.countP q := fun l => List.countP_mono_left (fun x _ hx => hpq x hx)
    rw [List.countP_cons, List.countP_cons]
    rcases List.mem_cons.mp hw with rfl | hw
    · rw [h1, h2]
      have := mono l
      simp only [if_true, Bool.false_eq_true, if_false]
      omega
    · have := countP_more hpq ⟨w, hw, h1, h2⟩
      have : (if p a = true then 1 else 0) ≤ (if q a = true then 1 else 0) := by
        by_cases hp : p a = true
        · rw [if_pos hp, if_pos (hpq a hp)]; exact Nat.le_refl _
        · rw [if_neg hp]; exact Nat.zero_le _
      omega
/-- rows with keys up to n -/
def upTo (n : Nat) (w : RW (List Tk)) : Bool := Nat.ble 1 w.1.toNatClampNeg && Nat.ble w.1.toNatClampNeg n
theorem upTo_more {W : DG} {n i : Nat} (hn : n < 1000) (h : lfind (N (n + 1)) W = some i) : W.countP (upTo n) + 1 ≤ W.countP (upTo (n + 1)) := by
  obtain ⟨h1, h2, -⟩ := List.findIdx?_eq_some_iff_getElem.mp h
  have e : W[i].1 = N (n + 1) := by simpa using h2
  refine countP_more (fun w hw => ?_) ⟨W[i], List.getElem_mem h1, ?_, ?_⟩
  · unfold upTo at *
    rw [Bool.and_eq_true] at *
    exact ⟨hw.1, Nat.ble_eq_true_of_le (by have := Nat.le_of_ble_eq_true hw.2; omega)⟩
  · unfold upTo
    rw [e, N_nat (by omega), Bool.and_eq_true]
    exact ⟨Nat.ble_eq_true_of_le (by omega), Nat.ble_eq_true_of_le (Nat.le_refl _)⟩
  · unfold upTo
    rw [e, N_nat (by omega), Bool.and_eq_false_iff]
    right
    cases hb : Nat.ble (n + 1) n with
    | false => rfl
    | true => have := Nat.le_of_ble_eq_true hb; omega
theorem upTo_mono {W : DG} {n : Nat} : W.countP (upTo n) ≤ W.countP (upTo (n + 1)) := by
  refine List.countP_mono_left (fun w _ hw => ?_)
  unfold upTo at *
  rw [Bool.and_eq_true] at *
  exact ⟨hw.1, Nat.ble_eq_true_of_le (by have := Nat.le_of_ble_eq_true hw.2; omega)⟩
theorem len_pCls {R : Nat → Nat × Nat} {gb gx gt W : DG} : ∀ n, n < 1000 → (pCls R gb gx gt W n).length ≤ 6 * W.countP (upTo n)
  | 0, _ => Nat.zero_le _
  | n + 1, hn => by
    have ih := len_pCls (R := R) (gb := gb) (gx := gx) (gt := gt) (W := W) n (by omega)
    unfold pCls
    cases e : lfind (N (n + 1)) W with
    | none =>
      have := upTo_mono (W := W) (n := n)
      simp only
      omega
    | some i =>
      have := upTo_more (by omega) e
      have h6 := len_pRowK (R := R) (gb := gb) (gx := gx) (gt := gt) (k := N (n + 1))
      simp only [List.length_append]
      omega
section MERGE
variable {μ μ' μ'' : jM} {B D m b x t r d : Nat} {gb gx gt : DG} {R : Nat → Nat × Nat} {k : Int32} {ob ox ot om : Option Nat} {i c : Nat}
theorem d_mergeContent (h : MX μ B D m b x t r gb gx gt R) (L : LK μ m k ob ox ot (some i)) (hi : i < 1000) (sb : ∀ j, ob = some j → j < 1000) (sx : ∀ j, ox = some j → j < 1000) (st : ∀ j, ot = some j → j < 1000) (hc : c < 3) (h48 : (cL μ (m + 7)).length < 48) :
    ∃ μ', jC (d + 3) 117 [.ref m, .int (N c)] μ = some (none, μ') ∧ MS μ μ' B D m b x t r gb gx gt R ∧ dG μ' (xA (m + 1)) = lset (dG μ (xA (m + 1))) (some i) c (fun w => ((pCont (R c) (cO [] gb ob c) (cO [] gx ox c) (cO [] gt ot c)).1.1, (pCont (R c) (cO [] gb ob c) (cO [] gx ox c) (cO [] gt ot c)).1.2.1, (pCont (R c) (cO [] gb ob c) (cO [] gx ox c) (cO [] gt ot c)).1.2.2, w.2.2.2)) ∧ cL μ' (m + 7) = cL μ (m + 7) ++ (if (pCont (R c) (cO [] gb ob c) (cO [] gx ox c) (cO [] gt ot c)).2 then [(N 1, k, N c, N 0)] else []) := by
  obtain ⟨hk0, hr0, hr1, hr2, hr3, hr4, hr5⟩ := h.1
  have gx6 : jk μ x = 6 := h.2.1.2.2.2.1.2.1.1.1
  have gt6 : jk μ t = 6 := h.2.1.2.2.2.2.1.2.1.1.1
  have gb6 : jk μ b = 6 := h.2.1.2.2.1.2.1.1.1
  have gm0 : jk μ (m + 1) = 6 := h.2.1.2.1.2.1.1.1
  have a1 := d_isAl (d := d) (c := c) h.2.1.2.2.2.1 h.2.1.2.2.2.2.1 sx st hc
  have a2 := d_isAl (d := d) (c := c) h.2.1.2.2.1 h.2.1.2.2.2.2.1 sb st hc
  have a3 := d_isAl (d := d) (c := c) h.2.1.2.2.1 h.2.1.2.2.2.1 sb sx hc
  have a4 := d_areNumbers (d := d) h L sx st hc
  rw [h.2.2.1.2.1, h.2.2.1.2.2.1] at a1
  rw [h.2.2.1.1, h.2.2.1.2.2.1] at a2
  rw [h.2.2.1.1, h.2.2.1.2.1] at a3
  rw [jC_run (by decide)]
  show ∃ μ', jR (d + 3) 117 0 [.ref m, .int (N c)] [] μ = _ ∧ _
  simp only [b117_0, gI7, gR7, pI7, pR7, rv7, gI6, gR6, pI6, pR6, rv6, aI_eq, aB_eq, aR_eq, sI_eq, sB_eq, sR_eq, Option.bind_some, Option.bind_none, if_true, if_false, true_or, or_true, false_or, or_false, true_and, and_true, false_and, and_false, decide_eq_true_eq, decide_true, decide_false, eq_self, not_true_eq_false, not_false_eq_true, jfit0, N_lit, N_add, N_mul, NEG_eq, pl_none, pl_some, rf_some, rf_none, jun_ref, jun_null, ir_ref, ir_null, jr_rf, jun_rf, Option.toList_some, Option.toList_none, List.nil_append, List.cons_append, hk0, hr3, hr4, L.2.2.1, L.2.2.2.1, gx6, a1]
  rw [b117_20]
  obtain ⟨mx, x1, x2, x3, x4⟩ := mx_content (d := d + 1) (q := ox) h h.2.1.2.2.2.1 h.2.2.2.2.2.2.1 hi sx hc
  obtain ⟨mt, y1, y2, y3, y4⟩ := mx_content (d := d + 1) (q := ot) h h.2.1.2.2.2.2.1 h.2.2.2.2.2.2.2.1 hi st hc
  rw [h.2.2.1.2.1] at x3
  rw [h.2.2.1.2.2.1] at y3
  have mine : jR (d + 3) 117 46 [.ref m, .int (N c)] [] μ = some (none, mx) := by
    simp only [b117_46, gI7, gR7, pI7, pR7, rv7, gI6, gR6, pI6, pR6, rv6, aI_eq, aB_eq, aR_eq, sI_eq, sB_eq, sR_eq, Option.bind_some, Option.bind_none, if_true, if_false, true_or, or_true, false_or, or_false, true_and, and_true, false_and, and_false, decide_eq_true_eq, decide_true, decide_false, eq_self, not_true_eq_false, not_false_eq_true, jfit0, N_lit, N_add, N_mul, NEG_eq, pl_none, pl_some, rf_some, rf_none, jun_ref, jun_null, ir_ref, ir_null, jr_rf, jun_rf, Option.toList_some, Option.toList_none, List.nil_append, List.cons_append, hk0, hr0, hr3, L.2.2.1, L.2.2.2.2, gm0, x1, b117_66, b117_125]
  by_cases e1 : cnt (cO [] gx ox c) = cnt (cO [] gt ot c)
  · have hp : pCont (R c) (cO [] gb ob c) (cO [] gx ox c) (cO [] gt ot c) = (cnt (cO [] gx ox c), false) := by unfold pCont; rw [if_pos (Or.inl e1)]
    simp only [pN_pos e1, aI_eq, aB_eq, aR_eq, sI_eq, sB_eq, sR_eq, Option.bind_some, Option.bind_none, if_true, if_false, true_or, or_true, false_or, or_false, true_and, and_true, false_and, and_false, decide_eq_true_eq, decide_true, decide_false, eq_self, not_true_eq_false, not_false_eq_true, jfit0, N_lit, N_add, N_mul, NEG_eq, pl_none, pl_some, rf_some, rf_none, jun_ref, jun_null, ir_ref, ir_null, jr_rf, jun_rf, Option.toList_some, Option.toList_none, List.nil_append, List.cons_append, n10]
    rw [hp]
    exact ⟨mx, mine, x2, x3, by rw [x4]; simp⟩
  · simp only [pN_neg e1, gI7, gR7, pI7, pR7, rv7, gI6, gR6, pI6, pR6, rv6, aI_eq, aB_eq, aR_eq, sI_eq, sB_eq, sR_eq, Option.bind_some, Option.bind_none, if_true, if_false, true_or, or_true, false_or, or_false, true_and, and_true, false_and, and_false, decide_eq_true_eq, decide_true, decide_false, eq_self, not_true_eq_false, not_false_eq_true, jfit0, N_lit, N_add, N_mul, NEG_eq, pl_none, pl_some, rf_some, rf_none, jun_ref, jun_null, ir_ref, ir_null, jr_rf, jun_rf, Option.toList_some, Option.toList_none, List.nil_append, List.cons_append, hk0, hr2, hr4, L.2.1, L.2.2.2.1, gb6, a2, b117_43]
    by_cases e2 : cnt (cO [] gb ob c) = cnt (cO [] gt ot c)
    · have hp : pCont (R c) (cO [] gb ob c) (cO [] gx ox c) (cO [] gt ot c) = (cnt (cO [] gx ox c), false) := by unfold pCont; rw [if_pos (Or.inr e2)]
      simp only [pN_pos e2, n10, if_false]
      rw [hp]
      exact ⟨mx, mine, x2, x3, by rw [x4]; simp⟩
    · simp only [pN_neg e2, if_true, gI7, gR7, pI7, pR7, rv7, gI6, gR6, pI6, pR6, rv6, aI_eq, aB_eq, aR_eq, sI_eq, sB_eq, sR_eq, Option.bind_some, Option.bind_none, if_true, if_false, true_or, or_true, false_or, or_false, true_and, and_true, false_and, and_false, decide_eq_true_eq, decide_true, decide_false, eq_self, not_true_eq_false, not_false_eq_true, jfit0, N_lit, N_add, N_mul, NEG_eq, pl_none, pl_some, rf_some, rf_none, jun_ref, jun_null, ir_ref, ir_null, jr_rf, jun_rf, Option.toList_some, Option.toList_none, List.nil_append, List.cons_append, hk0, hr2, hr3, L.2.1, L.2.2.1, gb6, a3, b117_89]
      by_cases e3 : cnt (cO [] gb ob c) = cnt (cO [] gx ox c)
      · have hp : pCont (R c) (cO [] gb ob c) (cO [] gx ox c) (cO [] gt ot c) = (cnt (cO [] gt ot c), false) := by unfold pCont; rw [if_neg (fun g => g.elim e1 e2), if_pos e3]
        simp only [pN_pos e3, n10, if_false, gI7, gR7, pI7, pR7, rv7, gI6, gR6, pI6, pR6, rv6, aI_eq, aB_eq, aR_eq, sI_eq, sB_eq, sR_eq, Option.bind_some, Option.bind_none, if_true, if_false, true_or, or_true, false_or, or_false, true_and, and_true, false_and, and_false, decide_eq_true_eq, decide_true, decide_false, eq_self, not_true_eq_false, not_false_eq_true, jfit0, N_lit, N_add, N_mul, NEG_eq, pl_none, pl_some, rf_some, rf_none, jun_ref, jun_null, ir_ref, ir_null, jr_rf, jun_rf, Option.toList_some, Option.toList_none, List.nil_append, List.cons_append, hk0, hr0, hr4, L.2.2.2.1, L.2.2.2.2, gm0, y1, b117_112, b117_125]
        rw [hp]
        exact ⟨mt, rfl, y2, y3, by rw [y4]; simp⟩
      · obtain ⟨μ', q1, q2⟩ := d_mergeChanged (d := d) h L hi sb sx st hc h48 (fun g => g.elim e1 e2) e3
        simp only [pN_neg e3, if_true, gI7, gR7, pI7, pR7, rv7, gI6, gR6, pI6, pR6, rv6, aI_eq, aB_eq, aR_eq, sI_eq, sB_eq, sR_eq, Option.bind_some, Option.bind_none, if_true, if_false, true_or, or_true, false_or, or_false, true_and, and_true, false_and, and_false, decide_eq_true_eq, decide_true, decide_false, eq_self, not_true_eq_false, not_false_eq_true, jfit0, N_lit, N_add, N_mul, NEG_eq, pl_none, pl_some, rf_some, rf_none, jun_ref, jun_null, ir_ref, ir_null, jr_rf, jun_rf, Option.toList_some, Option.toList_none, List.nil_append, List.cons_append, hk0, a4, b117_122, q1, b117_125]
        exact ⟨μ', rfl, q2⟩
theorem d_mergeNote (h : MX μ B D m b x t r gb gx gt R) (L : LK μ m k ob ox ot (some i)) (hi : i < 1000) (sb : ∀ j, ob = some j → j < 1000) (sx : ∀ j, ox = some j → j < 1000) (st : ∀ j, ot = some j → j < 1000) (hc : c < 3) (h48 : (cL μ (m + 7)).length < 48) :
    ∃ μ', jC (d + 2) 120 [.ref m, .int (N c)] μ = some (none, μ') ∧ MS μ μ' B D m b x t r gb gx gt R ∧ dG μ' (xA (m + 1)) = lset (dG μ (xA (m + 1))) (some i) c (fun w => (w.1, w.2.1, w.2.2.1, (pNote (cO [] gb ob c).2.2.2 (cO [] gx ox c).2.2.2 (cO [] gt ot c).2.2.2).1)) ∧ cL μ' (m + 7) = cL μ (m + 7) ++ (if (pNote (cO [] gb ob c).2.2.2 (cO [] gx ox c).2.2.2 (cO [] gt ot c).2.2.2).2 then [(N 3, k, N c, N 0)] else []) := by
  obtain ⟨hk0, hr0, hr1, hr2, hr3, hr4, hr5⟩ := h.1
  have gx6 : jk μ x = 6 := h.2.1.2.2.2.1.2.1.1.1
  have gt6 : jk μ t = 6 := h.2.1.2.2.2.2.1.2.1.1.1
  have gb6 : jk μ b = 6 := h.2.1.2.2.1.2.1.1.1
  have gm0 : jk μ (m + 1) = 6 := h.2.1.2.1.2.1.1.1
  have a1 := d_noteAt (d := d) (c := c) h.2.1.2.2.1 sb hc
  have a2 := d_noteAt (d := d) (c := c) h.2.1.2.2.2.1 sx hc
  have a3 := d_noteAt (d := d) (c := c) h.2.1.2.2.2.2.1 st hc
  rw [h.2.2.1.1] at a1
  rw [h.2.2.1.2.1] at a2
  rw [h.2.2.1.2.2.1] at a3
  generalize (cO [] gb ob c).2.2.2 = z at *
  generalize (cO [] gx ox c).2.2.2 = y at *
  generalize (cO [] gt ot c).2.2.2 = w at *
  have put : ∀ v : Int32, ∃ μ', jC (d + 1) 94 [.ref (m + 1), .int (N i), .int (N c), .int v] μ = some (none, μ') ∧ MS μ μ' B D m b x t r gb gx gt R ∧ dG μ' (xA (m + 1)) = lset (dG μ (xA (m + 1))) (some i) c (fun w => (w.1, w.2.1, w.2.2.1, v)) ∧ cL μ' (m + 7) = cL μ (m + 7) := by
    intro v
    obtain ⟨μ', q1, q2, q3, q4⟩ := d_setNote (d := d) (p := some i) (t := v) h.2.1.2.1 (one_small hi) hc
    obtain ⟨g1, g2⟩ := ms_G h q2 q3
    exact ⟨μ', q1, g1, q4, g2⟩
  rw [jC_run (by decide)]
  show ∃ μ', jR (d + 2) 120 0 [.ref m, .int (N c), .retAddr 0, .retAddr 0, .retAddr 0] [] μ = _ ∧ _
  simp only [b120_0, b120_12, b120_25, gI7, gR7, pI7, pR7, rv7, gI6, gR6, pI6, pR6, rv6, aI_eq, aB_eq, aR_eq, sI_eq, sB_eq, sR_eq, Option.bind_some, Option.bind_none, if_true, if_false, true_or, or_true, false_or, or_false, true_and, and_true, false_and, and_false, decide_eq_true_eq, decide_true, decide_false, eq_self, not_true_eq_false, not_false_eq_true, jfit0, N_lit, N_add, N_mul, NEG_eq, pl_none, pl_some, rf_some, rf_none, jun_ref, jun_null, ir_ref, ir_null, jr_rf, jun_rf, Option.toList_some, Option.toList_none, List.nil_append, List.cons_append, hk0, hr2, hr3, hr4, L.2.1, L.2.2.1, L.2.2.2.1, gb6, gx6, gt6, a1, a2, a3, b120_38]
  obtain ⟨mo, o1, o2, o3, o4⟩ := put y
  have own : ∀ (u2 u4 : Value), jR (d + 2) 120 52 [.ref m, .int (N c), u2, .int y, u4] [] μ = some (none, mo) := by
    intro u2 u4
    simp only [b120_52, gI7, gR7, pI7, pR7, rv7, gI6, gR6, pI6, pR6, rv6, aI_eq, aB_eq, aR_eq, sI_eq, sB_eq, sR_eq, Option.bind_some, Option.bind_none, if_true, if_false, true_or, or_true, false_or, or_false, true_and, and_true, false_and, and_false, decide_eq_true_eq, decide_true, decide_false, eq_self, not_true_eq_false, not_false_eq_true, jfit0, N_lit, N_add, N_mul, NEG_eq, pl_none, pl_some, rf_some, rf_none, jun_ref, jun_null, ir_ref, ir_null, jr_rf, jun_rf, Option.toList_some, Option.toList_none, List.nil_append, List.cons_append, hk0, hr0, L.2.2.2.2, gm0, o1, b120_65, b120_121]
  by_cases e1 : y = w
  · rw [show pNote z y w = (y, false) by unfold pNote; rw [if_pos (Or.inl e1)]]
    simp only [if_pos e1]
    exact ⟨mo, own _ _, o2, o3, by rw [o4]; simp⟩
  · simp only [if_neg e1]
    by_cases e2 : w = z
    · rw [show pNote z y w = (y, false) by unfold pNote; rw [if_pos (Or.inr e2)]]
      simp only [if_pos e2]
      exact ⟨mo, own _ _, o2, o3, by rw [o4]; simp⟩
    · simp only [if_neg e2]
      by_cases e3 : y = z
      · rw [show pNote z y w = (w, false) by unfold pNote; rw [if_neg (fun g => g.elim e1 e2), if_pos e3]]
        obtain ⟨mt, q1, q2, q3, q4⟩ := put w
        simp only [if_pos e3, gI7, gR7, pI7, pR7, rv7, gI6, gR6, pI6, pR6, rv6, aI_eq, aB_eq, aR_eq, sI_eq, sB_eq, sR_eq, Option.bind_some, Option.bind_none, if_true, if_false, true_or, or_true, false_or, or_false, true_and, and_true, false_and, and_false, decide_eq_true_eq, decide_true, decide_false, eq_self, not_true_eq_false, not_false_eq_true, jfit0, N_lit, N_add, N_mul, NEG_eq, pl_none, pl_some, rf_some, rf_none, jun_ref, jun_null, ir_ref, ir_null, jr_rf, jun_rf, Option.toList_some, Option.toList_none, List.nil_append, List.cons_append, hk0, hr0, L.2.2.2.2, gm0, q1, b120_87, b120_121]
        exact ⟨mt, rfl, q2, q3, by rw [q4]; simp⟩
      · rw [show pNote z y w = (imax y w, true) by unfold pNote; rw [if_neg (fun g => g.elim e1 e2), if_neg e3]]
        obtain ⟨mt, q1, q2, q3, q4⟩ := put (imax y w)
        obtain ⟨ma, p1, p2, p3, p4⟩ := mx_add (d := d + 1) (k := k) (y := N 3) (z := N c) q2.2.2 (by rw [q4]; exact h48)
        have L2 := q2.lk L
        have sh2 := q2.2.2.1
        have cc2 : jk mt (m + 7) = 4 := q2.2.2.2.1.1.1.1
        simp only [if_neg e3, gI7, gR7, pI7, pR7, rv7, gI6, gR6, pI6, pR6, rv6, aI_eq, aB_eq, aR_eq, sI_eq, sB_eq, sR_eq, Option.bind_some, Option.bind_none, if_true, if_false, true_or, or_true, false_or, or_false, true_and, and_true, false_and, and_false, decide_eq_true_eq, decide_true, decide_false, eq_self, not_true_eq_false, not_false_eq_true, jfit0, N_lit, N_add, N_mul, NEG_eq, pl_none, pl_some, rf_some, rf_none, jun_ref, jun_null, ir_ref, ir_null, jr_rf, jun_rf, Option.toList_some, Option.toList_none, List.nil_append, List.cons_append, hk0, hr0, L.2.2.2.2, math_max, b120_105, gm0, q1, b120_108, sh2, L2.1, gI4, gR4, pI4, pR4, rv4, cc2, p1, b120_121]
        exact ⟨ma, rfl, q2.trans p2, by rw [p3, q3], by rw [p4, q4]⟩
theorem col_done {l : DG} {C : Int32 × Int32 × List Tk} {v : Int32} (hc : c < 3) : lset (lset l (some i) c (fun w => (C.1, C.2.1, C.2.2, w.2.2.2))) (some i) c (fun w => (w.1, w.2.1, w.2.2.1, v)) = l.modify i (fun w => rset w c (C.1, C.2.1, C.2.2, v)) := by
  unfold lset
  simp only
  apply List.ext_getElem?
  intro j
  simp only [List.getElem?_modify]
  cases l[j]? with
  | none => rfl
  | some w =>
    simp only [Option.map_eq_map, Option.map_some]
    by_cases e : i = j
    · simp only [e, if_true]
      obtain rfl | rfl | rfl : c = 0 ∨ c = 1 ∨ c = 2 := by omega
      all_goals simp [rset, rcol]
    · simp only [e, if_false]
theorem row_done {l : DG} {a0 a1 a2 : DC} : ((l.modify i (fun w => rset w 0 a0)).modify i (fun w => rset w 1 a1)).modify i (fun w => rset w 2 a2) = lrow l i a0 a1 a2 := by
  unfold lrow
  apply List.ext_getElem?
  intro j
  simp only [List.getElem?_modify]
  cases l[j]? with
  | none => rfl
  | some w =>
    simp only [Option.map_eq_map, Option.map_some]
    by_cases e : i = j
    · simp only [e, if_true]; simp [rset]
    · simp only [e, if_false]
theorem d_mergeRow (h : MX μ B D m b x t r gb gx gt R) (L : LK μ m k (lfind k gb) (lfind k gx) (lfind k gt) (some i)) (hi : i < 1000) (h48 : (cL μ (m + 7)).length ≤ 42) :
    ∃ μ', jC (d + 4) 116 [.ref m] μ = some (none, μ') ∧ MS μ μ' B D m b x t r gb gx gt R ∧ dG μ' (xA (m + 1)) = lrow (dG μ (xA (m + 1))) i (pRowC R gb gx gt k 0) (pRowC R gb gx gt k 1) (pRowC R gb gx gt k 2) ∧ cL μ' (m + 7) = cL μ (m + 7) ++ pRowK R gb gx gt k := by
  obtain ⟨hk0, hr0, hr1, hr2, hr3, hr4, hr5⟩ := h.1
  have gm0 : jk μ (m + 1) = 6 := h.2.1.2.1.2.1.1.1
  have sb := small_of (k := k) h.2.1.2.2.1 rfl
  have sx := small_of (k := k) h.2.1.2.2.2.1 rfl
  have st := small_of (k := k) h.2.1.2.2.2.2.1 rfl
  rw [h.2.2.1.1] at sb
  rw [h.2.2.1.2.1] at sx
  rw [h.2.2.1.2.2.1] at st
  rw [jC_run (by decide)]
  show ∃ μ', jR (d + 4) 116 0 [.ref m, .retAddr 0] [] μ = _ ∧ _
  have b3 : (3 : Nat) < 2147483648 := by decide
  -- one of the two alone
  have alone : ∀ (s : Nat) (q : Option Nat), GV μ D s → (s + 6 ≤ m ∨ m + 12 ≤ s) → (∀ j, q = some j → j < 1000) → (lfind k gx = none ∨ lfind k gt = none) → ∃ μ1, jC (d + 3) 108 [.ref (m + 1), .ref s, .int (pl q), .int (N i)] μ = some (none, μ1) ∧ ∃ μ', jR (d + 4) 116 65 [.ref m, .retAddr 0] [] μ1 = some (none, μ') ∧ MS μ μ' B D m b x t r gb gx gt R ∧ dG μ' (xA (m + 1)) = lrow (dG μ (xA (m + 1))) i (cO [] (dG μ (xA s)) q 0) (cO [] (dG μ (xA s)) q 1) (cO [] (dG μ (xA s)) q 2) ∧ cL μ' (m + 7) = cL μ (m + 7) ++ pRowK R gb gx gt k := by
    intro s q hs hd hq hor
    obtain ⟨μ1, r1, r2, r3, r4⟩ := d_rowAsIn (d := d + 1) h.2.1.2.1 hs (by omega) hi hq
    obtain ⟨g1, g2⟩ := ms_G h r2 r3
    refine ⟨μ1, r1, ?_⟩
    have L1 := g1.lk L
    have sh1 := g1.2.2.1
    have cc1 : jk μ1 (m + 7) = 4 := g1.2.2.2.1.1.1.1
    have eK : pRowK R gb gx gt k = if lfind k gb = none then [] else [(N 2, k, NEG, N 0)] := by unfold pRowK; rw [if_pos hor]
    simp only [b116_65, gI7, gR7, pI7, pR7, rv7, gI6, gR6, pI6, pR6, rv6, gI4, gR4, pI4, pR4, rv4, aI_eq, aB_eq, aR_eq, sI_eq, sB_eq, sR_eq, Option.bind_some, Option.bind_none, if_true, if_false, true_or, or_true, false_or, or_false, true_and, and_true, false_and, and_false, decide_eq_true_eq, decide_true, decide_false, eq_self, not_true_eq_false, not_false_eq_true, jfit0, N_lit, N_add, N_mul, NEG_eq, pl_none, pl_some, rf_some, rf_none, jun_ref, jun_null, ir_ref, ir_null, jr_rf, jun_rf, Option.toList_some, Option.toList_none, List.nil_append, List.cons_append, sh1, L1.2.1, pl_ne sb]
    by_cases e : lfind k gb = none
    · simp only [if_pos e, b116_86]
      exact ⟨μ1, rfl, g1, r4, by rw [g2, eK, if_pos e]; simp⟩
    · obtain ⟨μ2, a1, a2, a3, a4⟩ := mx_add (d := d + 3) (k := k) (y := N 2) (z := NEG) g1.2.2 (by rw [g2]; omega)
      simp only [if_neg e, L1.1, gI4, gR4, pI4, pR4, rv4, aI_eq, aB_eq, aR_eq, sI_eq, sB_eq, sR_eq, Option.bind_some, Option.bind_none, if_true, if_false, true_or, or_true, false_or, or_false, true_and, and_true, false_and, and_false, decide_eq_true_eq, decide_true, decide_false, eq_self, not_true_eq_false, not_false_eq_true, jfit0, N_lit, N_add, N_mul, NEG_eq, pl_none, pl_some, rf_some, rf_none, jun_ref, jun_null, ir_ref, ir_null, jr_rf, jun_rf, Option.toList_some, Option.toList_none, List.nil_append, List.cons_append, cc1, a1, b116_86]
      exact ⟨μ2, rfl, g1.trans a2, by rw [a3, r4], by rw [a4, g2, eK, if_neg e]⟩
  simp only [b116_0, gI7, gR7, pI7, pR7, rv7, gI6, gR6, pI6, pR6, rv6, aI_eq, aB_eq, aR_eq, sI_eq, sB_eq, sR_eq, Option.bind_some, Option.bind_none, if_true, if_false, true_or, or_true, false_or, or_false, true_and, and_true, false_and, and_false, decide_eq_true_eq, decide_true, decide_false, eq_self, not_true_eq_false, not_false_eq_true, jfit0, N_lit, N_add, N_mul, NEG_eq, pl_none, pl_some, rf_some, rf_none, jun_ref, jun_null, ir_ref, ir_null, jr_rf, jun_rf, Option.toList_some, Option.toList_none, List.nil_append, List.cons_append, hk0, L.2.2.1, L.2.2.2.1, pl_ne sx, pl_ne st]
  by_cases e1 : lfind k gx = none
  · obtain ⟨μ1, r1, μ', r2, r3, r4, r5⟩ := alone t (lfind k gt) h.2.1.2.2.2.2.1 h.2.2.2.2.2.2.2.1 st (Or.inl e1)
    simp only [if_pos e1, b116_16, gI7, gR7, pI7, pR7, rv7, gI6, gR6, pI6, pR6, rv6, aI_eq, aB_eq, aR_eq, sI_eq, sB_eq, sR_eq, Option.bind_some, Option.bind_none, if_true, if_false, true_or, or_true, false_or, or_false, true_and, and_true, false_and, and_false, decide_eq_true_eq, decide_true, decide_false, eq_self, not_true_eq_false, not_false_eq_true, jfit0, N_lit, N_add, N_mul, NEG_eq, pl_none, pl_some, rf_some, rf_none, jun_ref, jun_null, ir_ref, ir_null, jr_rf, jun_rf, Option.toList_some, Option.toList_none, List.nil_append, List.cons_append, hk0, L.2.2.1, pl_ne sx, hr0, hr4, L.2.2.2.1, L.2.2.2.2, gm0, r1, b116_43]
    refine ⟨μ', r2, r3, ?_, r5⟩
    rw [r4, h.2.2.1.2.2.1]
    unfold pRowC
    rw [if_pos e1, if_pos e1, if_pos e1]
  · simp only [if_neg e1]
    by_cases e2 : lfind k gt = none
    · obtain ⟨μ1, r1, μ', r2, r3, r4, r5⟩ := alone x (lfind k gx) h.2.1.2.2.2.1 h.2.2.2.2.2.2.1 sx (Or.inr e2)
      simp only [if_pos e2, b116_16, gI7, gR7, pI7, pR7, rv7, gI6, gR6, pI6, pR6, rv6, aI_eq, aB_eq, aR_eq, sI_eq, sB_eq, sR_eq, Option.bind_some, Option.bind_none, if_true, if_false, true_or, or_true, false_or, or_false, true_and, and_true, false_and, and_false, decide_eq_true_eq, decide_true, decide_false, eq_self, not_true_eq_false, not_false_eq_true, jfit0, N_lit, N_add, N_mul, NEG_eq, pl_none, pl_some, rf_some, rf_none, jun_ref, jun_null, ir_ref, ir_null, jr_rf, jun_rf, Option.toList_some, Option.toList_none, List.nil_append, List.cons_append, hk0, L.2.2.1, pl_ne sx, if_neg e1, hr0, hr3, L.2.2.2.2, gm0, r1]
      refine ⟨μ', r2, r3, ?_, r5⟩
      rw [r4, h.2.2.1.2.1]
      unfold pRowC
      rw [if_neg e1, if_neg e1, if_neg e1, if_pos e2, if_pos e2, if_pos e2]
    · simp only [if_neg e2]
      have col : ∀ (μ1 : jM) (c : Nat), c < 3 → MS μ μ1 B D m b x t r gb gx gt R → (cL μ1 (m + 7)).length + 2 ≤ 48 → ∃ μ', jR (d + 4) 116 89 [.ref m, .int (N c)] [] μ1 = jR (d + 4) 116 89 [.ref m, .int (N (c + 1))] [] μ' ∧ MS μ μ' B D m b x t r gb gx gt R ∧ dG μ' (xA (m + 1)) = (dG μ1 (xA (m + 1))).modify i (fun w => rset w c (pCell R gb gx gt (lfind k gb) (lfind k gx) (lfind k gt) c)) ∧ cL μ' (m + 7) = cL μ1 (m + 7) ++ pClc R gb gx gt (lfind k gb) (lfind k gx) (lfind k gt) k c := by
        intro μ1 c hc q1 q2
        have bc : c < 2147483648 := by omega
        obtain ⟨μ2, a1, a2, a3, a4⟩ := d_mergeContent (d := d) q1.2.2 (q1.lk L) hi sb sx st hc (by omega)
        obtain ⟨μ3, c1, c2, c3, c4⟩ := d_mergeNote (d := d + 1) a2.2.2 (a2.lk (q1.lk L)) hi sb sx st hc (by
          rw [a4, List.length_append]
          have : (if (pCont (R c) (cO [] gb (lfind k gb) c) (cO [] gx (lfind k gx) c) (cO [] gt (lfind k gt) c)).2 = true then [((N 1, k, N c, N 0) : CL)] else []).length ≤ 1 := by split <;> simp
          omega)
        refine ⟨μ3, ?_, (q1.trans a2).trans c2, ?_, by rw [c4, a4, List.append_assoc]; rfl⟩
        · rw [b116_89]
          simp only [gI7, gR7, pI7, pR7, rv7, aI_eq, aB_eq, aR_eq, sI_eq, sB_eq, sR_eq, Option.bind_some, Option.bind_none, if_true, if_false, true_or, or_true, false_or, or_false, true_and, and_true, false_and, and_false, decide_eq_true_eq, decide_true, decide_false, eq_self, not_true_eq_false, not_false_eq_true, jfit0, N_lit, N_add, N_mul, NEG_eq, pl_none, pl_some, rf_some, rf_none, jun_ref, jun_null, ir_ref, ir_null, jr_rf, jun_rf, Option.toList_some, Option.toList_none, List.nil_append, List.cons_append, N_lt bc b3, hc, q1.2.2.1, a1, b116_99, a2.2.2.1, c1, b116_104]
        · rw [c3, a3]
          exact col_done hc
      obtain ⟨m1, a1, a2, a3, a4⟩ := col μ 0 (by decide) ⟨FM.refl, rfl, h⟩ (by omega)
      have l1 := len_pClc (R := R) (gb := gb) (gx := gx) (gt := gt) (ob := lfind k gb) (ox := lfind k gx) (ot := lfind k gt) (k := k) (c := 0)
      have l2 := len_pClc (R := R) (gb := gb) (gx := gx) (gt := gt) (ob := lfind k gb) (ox := lfind k gx) (ot := lfind k gt) (k := k) (c := 1)
      obtain ⟨m2, c1, c2, c3, c4⟩ := col m1 1 (by decide) a2 (by rw [a4, List.length_append]; omega)
      obtain ⟨m3, g1, g2, g3, g4⟩ := col m2 2 (by decide) c2 (by rw [c4, a4, List.length_append, List.length_append]; omega)
      refine ⟨m3, ?_, g2, ?_, ?_⟩
      · rw [a1, c1, g1, b116_89]
        simp only [aI_eq, aB_eq, aR_eq, sI_eq, sB_eq, sR_eq, Option.bind_some, Option.bind_none, if_true, if_false, true_or, or_true, false_or, or_false, true_and, and_true, false_and, and_false, decide_eq_true_eq, decide_true, decide_false, eq_self, not_true_eq_false, not_false_eq_true, jfit0, N_lit, N_add, N_mul, NEG_eq, pl_none, pl_some, rf_some, rf_none, jun_ref, jun_null, ir_ref, ir_null, jr_rf, jun_rf, Option.toList_some, Option.toList_none, List.nil_append, List.cons_append, N_lt (show 2 + 1 < 2147483648 by decide) b3, Nat.lt_irrefl, Nat.reduceAdd]
      · rw [g3, c3, a3, row_done]
        unfold pRowC
        rw [if_neg e1, if_neg e1, if_neg e1, if_neg e2, if_neg e2, if_neg e2]
      · rw [g4, c4, a4]
        unfold pRowK
        rw [if_neg (fun g => g.elim e1 e2), List.append_assoc, List.append_assoc, List.append_assoc]
end MERGE
