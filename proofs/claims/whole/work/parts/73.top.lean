/-! THE CLASS's CALLS: rows -/
abbrev gA (X i : Nat) : Nat := X + 1 + 1 + 6 * i
abbrev OP (d mi : Nat) (as : List Value) (μ : jM) (X : Nat) (r : RES) (n w : Nat) : Prop := ∃ μ', jC d mi as μ = some (some (.int r.1), μ') ∧ XT μ X μ' r.2 n w
section TOP
variable {μ μ' μ'' : jM} {n w m v lo hi a b r q s D d X i k : Nat} {σ σ' : SG} {x y z u g c : Int32}
theorem XR.s0 (h : XR μ X σ) : (jk μ X = 12 ∧ jrv μ X 0 = some (X + 1) ∧ jrv μ X 1 = some (X + 138) ∧ jrv μ X 3 = some (X + 275) ∧ jrv μ X 4 = some (X + 280) ∧ jrv μ X 5 = some (X + 285) ∧ jrv μ X 6 = some (X + 289) ∧ jrv μ X 8 = some (X + 294) ∧ jrv μ X 9 = some (X + 306) ∧ jrv μ X 10 = some (X + 318) ∧ jrv μ X 11 = some (X + 324) ∧ jrv μ X 12 = some (X + 330) ∧ jrv μ X 14 = some (X + 333)) := (h 0 (by decide)).1
theorem XR.bb (h : XR μ X σ) : BR μ (X + 766) (X + 1) σ.1 := h 1 (by decide)
theorem XR.gg (h : XR μ X σ) (hi : i < 4) : GV μ (X + 766) (gA X i) ∧ dG μ (xA (gA X i)) = σ.1.1 i := h.bb.2.2.1 i hi
theorem XR.k3 (h : XR μ X σ) : jk μ (X + 1) = 3 := h.bb.2.1.1.1
theorem XR.k6 (h : XR μ X σ) (hi : i < 4) : jk μ (gA X i) = 6 := (h.gg hi).1.2.1.1.1
theorem XR.k4 (h : XR μ X σ) : jk μ (X + 289) = 4 := (h 5 (by decide)).1.1.1
theorem XR.vn (h : XR μ X σ) (hi : i < 4) : vN μ (xA (gA X i)) = (σ.1.1 i).length := by rw [← (h.gg hi).2, len_dG]
theorem XR.nn (h : XR μ X σ) (hi : i < 4) : jiv μ (gA X i) 0 = N (σ.1.1 i).length := by rw [← h.vn hi]; exact (h.gg hi).1.2.2.1.1
theorem XR.l8 (h : XR μ X σ) (hi : i < 4) : (σ.1.1 i).length ≤ 8 := by rw [← h.vn hi]; exact (h.gg hi).1.2.2.1.2
theorem t_gridAt (h : XR μ X σ) (hi : i < 4) : jC d 69 [.ref (X + 1), .int (N i)] μ = some (some (.ref (gA X i)), μ) := d_gridAt h.bb.2.1 hi
theorem x_isIn : jC d 13 [.int x, .int y, .int z] μ = some (some (.int (pN (¬ x < y ∧ ¬ z < x))), μ) := by
  rw [jC_run (by decide)]
  show jR d 13 0 [.int x, .int y, .int z] [] μ = _
  rw [b13_0]
  by_cases h1 : x < y
  · rw [if_pos h1, pN_neg (fun g => g.1 h1), b13_14, b13_15, if_pos (by rfl)]; rfl
  · rw [if_neg h1]
    by_cases h2 : z < x
    · rw [if_pos h2, pN_neg (fun g => g.2 h2), b13_14, b13_15, if_pos (by rfl)]; rfl
    · rw [if_neg h2, pN_pos ⟨h1, h2⟩, b13_15, if_pos (by rfl)]; rfl
theorem ix_cases {n : Nat} (x : Int32) : ix n x = if x < N 0 then none else if x < N n then some x.toNatClampNeg else none := rfl
theorem x_isInput : jC d 16 [.int x] μ = some (some (.int (bN (ix 3 x).isSome)), μ) := by
  rw [jC_run (by decide)]
  show jR d 16 0 [.int x] [] μ = _
  rw [b16_0, ix_cases]
  simp only [N_lit, b16_13]
  by_cases h1 : x < N 0
  · rw [if_pos h1, if_pos h1, b16_14, if_pos (by rfl)]; rfl
  · rw [if_neg h1, if_neg h1]
    by_cases h2 : x < N 3
    · rw [if_pos h2, if_pos h2, b16_14, if_pos (by rfl)]; rfl
    · rw [if_neg h2, if_neg h2, b16_14, if_pos (by rfl)]; rfl
theorem x_isGrid : jC d 18 [.int x] μ = some (some (.int (bN (ix 4 x).isSome)), μ) := by
  rw [jC_run (by decide)]
  show jR d 18 0 [.int x] [] μ = _
  rw [b18_0, ix_cases]
  simp only [N_lit, b18_13]
  by_cases h1 : x < N 0
  · rw [if_pos h1, if_pos h1, b18_14, if_pos (by rfl)]; rfl
  · rw [if_neg h1, if_neg h1]
    by_cases h2 : x < N 4
    · rw [if_pos h2, if_pos h2, b18_14, if_pos (by rfl)]; rfl
    · rw [if_neg h2, if_neg h2, b18_14, if_pos (by rfl)]; rfl
theorem x_isColumn : jC d 32 [.int x] μ = some (some (.int (bN (ix 3 x).isSome)), μ) := by
  rw [jC_run (by decide)]
  show jR d 32 0 [.int x] [] μ = _
  rw [b32_0, ix_cases]
  simp only [N_lit, b32_13]
  by_cases h1 : x < N 0
  · rw [if_pos h1, if_pos h1, b32_14, if_pos (by rfl)]; rfl
  · rw [if_neg h1, if_neg h1]
    by_cases h2 : x < N 3
    · rw [if_pos h2, if_pos h2, b32_14, if_pos (by rfl)]; rfl
    · rw [if_neg h2, if_neg h2, b32_14, if_pos (by rfl)]; rfl
theorem x_isSheet : jC d 48 [.int x] μ = some (some (.int (bN (ix 4 x).isSome)), μ) := by
  rw [jC_run (by decide)]
  show jR d 48 0 [.int x] [] μ = _
  rw [b48_0, ix_cases]
  simp only [N_lit, b48_13]
  by_cases h1 : x < N 0
  · rw [if_pos h1, if_pos h1, b48_14, if_pos (by rfl)]; rfl
  · rw [if_neg h1, if_neg h1]
    by_cases h2 : x < N 4
    · rw [if_pos h2, if_pos h2, b48_14, if_pos (by rfl)]; rfl
    · rw [if_neg h2, if_neg h2, b48_14, if_pos (by rfl)]; rfl
theorem x_isRuleKind : jC d 33 [.int x] μ = some (some (.int (bN (ix 6 x).isSome)), μ) := by
  rw [jC_run (by decide)]
  show jR d 33 0 [.int x] [] μ = _
  rw [b33_0, ix_cases]
  simp only [N_lit, b33_14]
  by_cases h1 : x < N 0
  · rw [if_pos h1, if_pos h1, b33_15, if_pos (by rfl)]; rfl
  · rw [if_neg h1, if_neg h1]
    by_cases h2 : x < N 6
    · rw [if_pos h2, if_pos h2, b33_15, if_pos (by rfl)]; rfl
    · rw [if_neg h2, if_neg h2, b33_15, if_pos (by rfl)]; rfl
theorem cellX_ix {n : Nat} {x y : Int32} : cellX n x y = (ix n x).bind fun i => (ix 3 y).map fun c => i * 3 + c := by
  unfold cellX ix
  by_cases h1 : x < N 0
  · rw [if_pos h1, if_pos h1]; rfl
  · rw [if_neg h1, if_neg h1]
    by_cases h2 : x < N n
    · rw [if_pos h2, if_pos h2]
      by_cases h3 : y < N 0
      · rw [if_pos h3]; simp only [Option.bind_some, if_pos h3]; rfl
      · rw [if_neg h3]
        by_cases h4 : y < N 3
        · rw [if_pos h4]; simp only [Option.bind_some, if_neg h3, if_pos h4]; rfl
        · rw [if_neg h4]; simp only [Option.bind_some, if_neg h3, if_neg h4]; rfl
    · rw [if_neg h2, if_neg h2]; rfl
theorem x_isCell (h : XR μ X σ) : jC (d + 1) 17 [.ref X, .int g, .int x, .int y] μ = some (some (.int (bN (cix σ 4 g x y).isSome)), μ) := by
  obtain ⟨k12, r0, -⟩ := h.s0
  rw [jC_run (by decide)]
  show jR (d + 1) 17 0 [.ref X, .int g, .int x, .int y] [] μ = _
  rw [b17_0]
  simp only [x_isGrid, aI_eq, aB_eq, aR_eq, sI_eq, sB_eq, sR_eq, Option.bind_some, Option.bind_none, if_true, if_false, true_or, or_true, false_or, or_false, true_and, and_true, false_and, and_false, decide_eq_true_eq, decide_true, decide_false, eq_self, not_true_eq_false, not_false_eq_true, jfit0, N_lit, N_add, N_mul, NEG_eq, pl_none, pl_some, rf_some, rf_none, jun_ref, jun_null, ir_ref, ir_null, jr_rf, jun_rf, Option.toList_some, Option.toList_none, List.nil_append, List.cons_append]
  unfold cix
  cases e : ix 4 g with
  | none =>
    rw [b17_4]
    simp only [Option.isSome_none, bN_false, aI_eq, aB_eq, aR_eq, sI_eq, sB_eq, sR_eq, Option.bind_some, Option.bind_none, if_true, if_false, true_or, or_true, false_or, or_false, true_and, and_true, false_and, and_false, decide_eq_true_eq, decide_true, decide_false, eq_self, not_true_eq_false, not_false_eq_true, jfit0, N_lit, N_add, N_mul, NEG_eq, pl_none, pl_some, rf_some, rf_none, jun_ref, jun_null, ir_ref, ir_null, jr_rf, jun_rf, Option.toList_some, Option.toList_none, List.nil_append, List.cons_append, b17_28, b17_29, jrf40]
  | some i =>
    obtain ⟨rfl, hi⟩ := ix_some (by decide) e
    rw [b17_4]
    simp only [Option.isSome_some, bN_true, N_lit, n10, if_false, gI12, gR12, pI12, pR12, rv12, gI3, gR3, pI3, pR3, rv3, gI6, gR6, pI6, pR6, rv6, aI_eq, aB_eq, aR_eq, sI_eq, sB_eq, sR_eq, Option.bind_some, Option.bind_none, if_true, if_false, true_or, or_true, false_or, or_false, true_and, and_true, false_and, and_false, decide_eq_true_eq, decide_true, decide_false, eq_self, not_true_eq_false, not_false_eq_true, jfit0, N_lit, N_add, N_mul, NEG_eq, pl_none, pl_some, rf_some, rf_none, jun_ref, jun_null, ir_ref, ir_null, jr_rf, jun_rf, Option.toList_some, Option.toList_none, List.nil_append, List.cons_append, k12, r0, h.k3, t_gridAt h hi]
    rw [b17_15 (hs0 := ir_ref)]
    simp only [gI6, gR6, pI6, pR6, rv6, aI_eq, aB_eq, aR_eq, sI_eq, sB_eq, sR_eq, Option.bind_some, Option.bind_none, if_true, if_false, true_or, or_true, false_or, or_false, true_and, and_true, false_and, and_false, decide_eq_true_eq, decide_true, decide_false, eq_self, not_true_eq_false, not_false_eq_true, jfit0, N_lit, N_add, N_mul, NEG_eq, pl_none, pl_some, rf_some, rf_none, jun_ref, jun_null, ir_ref, ir_null, jr_rf, jun_rf, Option.toList_some, Option.toList_none, List.nil_append, List.cons_append, h.k6 hi, x_cellAt (h.gg hi).1.2.1 (h.gg hi).1.2.2.1, h.vn hi, b17_20, cellX_ix]
    cases e2 : ix (σ.1.1 i).length x with
    | none => simp only [aI_eq, aB_eq, aR_eq, sI_eq, sB_eq, sR_eq, Option.bind_some, Option.bind_none, if_true, if_false, true_or, or_true, false_or, or_false, true_and, and_true, false_and, and_false, decide_eq_true_eq, decide_true, decide_false, eq_self, not_true_eq_false, not_false_eq_true, jfit0, N_lit, N_add, N_mul, NEG_eq, pl_none, pl_some, rf_some, rf_none, jun_ref, jun_null, ir_ref, ir_null, jr_rf, jun_rf, Option.toList_some, Option.toList_none, List.nil_append, List.cons_append, b17_28, b17_29, jrf40, Option.isSome_none, bN_false]
    | some j =>
      cases e3 : ix 3 y with
      | none => simp only [aI_eq, aB_eq, aR_eq, sI_eq, sB_eq, sR_eq, Option.bind_some, Option.bind_none, if_true, if_false, true_or, or_true, false_or, or_false, true_and, and_true, false_and, and_false, decide_eq_true_eq, decide_true, decide_false, eq_self, not_true_eq_false, not_false_eq_true, jfit0, N_lit, N_add, N_mul, NEG_eq, pl_none, pl_some, rf_some, rf_none, jun_ref, jun_null, ir_ref, ir_null, jr_rf, jun_rf, Option.toList_some, Option.toList_none, List.nil_append, List.cons_append, Option.map_none, b17_28, b17_29, jrf40, Option.isSome_none, bN_false]
      | some k =>
        have hj := (ix_some (by have := h.l8 hi; omega) e2).2
        have hk := (ix_some (by decide) e3).2
        have hl := h.l8 hi
        simp only [aI_eq, aB_eq, aR_eq, sI_eq, sB_eq, sR_eq, Option.bind_some, Option.bind_none, if_true, if_false, true_or, or_true, false_or, or_false, true_and, and_true, false_and, and_false, decide_eq_true_eq, decide_true, decide_false, eq_self, not_true_eq_false, not_false_eq_true, jfit0, N_lit, N_add, N_mul, NEG_eq, pl_none, pl_some, rf_some, rf_none, jun_ref, jun_null, ir_ref, ir_null, jr_rf, jun_rf, Option.toList_some, Option.toList_none, List.nil_append, List.cons_append, Option.map_some, Option.isSome_some, bN_true, N_NEG (show j * 3 + k < 2147483648 by omega), b17_29, jrf41]
theorem cix_43 {σ : SG} (h : (ix 3 g).isSome = true) : cix σ 3 g x y = cix σ 4 g x y := by
  unfold cix
  cases e : ix 3 g with
  | none => rw [e] at h; cases h
  | some i =>
    obtain ⟨rfl, hi⟩ := ix_some (by decide) e
    rw [ix_N (by decide) (show i < 4 by omega)]
theorem cix_3 {σ : SG} {p : Nat × Nat × Nat} (h : cix σ 3 g x y = some p) (hl : ∀ i, i < 4 → (σ.1.1 i).length ≤ 8) : g = N p.1 ∧ p.1 < 3 ∧ x = N p.2.1 ∧ p.2.1 < (σ.1.1 p.1).length ∧ y = N p.2.2 ∧ p.2.2 < 3 := by
  unfold cix at h
  cases e : ix 3 g with
  | none => rw [e] at h; cases h
  | some i =>
    obtain ⟨rfl, hi⟩ := ix_some (by decide) e
    rw [e] at h
    simp only [Option.bind_some] at h
    cases e2 : ix (σ.1.1 i).length x with
    | none => rw [e2] at h; cases h
    | some j =>
      obtain ⟨rfl, hj⟩ := ix_some (by have := hl i (by omega); omega) e2
      rw [e2] at h
      simp only [Option.bind_some] at h
      cases e3 : ix 3 y with
      | none => rw [e3] at h; cases h
      | some c =>
        obtain ⟨rfl, hc⟩ := ix_some (by decide) e3
        rw [e3] at h
        cases h
        exact ⟨rfl, hi, rfl, hj, rfl, hc⟩
theorem cix_4 {σ : SG} {p : Nat × Nat × Nat} (h : cix σ 4 g x y = some p) (hl : ∀ i, i < 4 → (σ.1.1 i).length ≤ 8) : g = N p.1 ∧ p.1 < 4 ∧ x = N p.2.1 ∧ p.2.1 < (σ.1.1 p.1).length ∧ y = N p.2.2 ∧ p.2.2 < 3 := by
  unfold cix at h
  cases e : ix 4 g with
  | none => rw [e] at h; cases h
  | some i =>
    obtain ⟨rfl, hi⟩ := ix_some (by decide) e
    rw [e] at h
    simp only [Option.bind_some] at h
    cases e2 : ix (σ.1.1 i).length x with
    | none => rw [e2] at h; cases h
    | some j =>
      obtain ⟨rfl, hj⟩ := ix_some (by have := hl i hi; omega) e2
      rw [e2] at h
      simp only [Option.bind_some] at h
      cases e3 : ix 3 y with
      | none => rw [e3] at h; cases h
      | some c =>
        obtain ⟨rfl, hc⟩ := ix_some (by decide) e3
        rw [e3] at h
        cases h
        exact ⟨rfl, hi, rfl, hj, rfl, hc⟩
theorem x_isInputCell (h : XR μ X σ) : jC (d + 2) 15 [.ref X, .int g, .int x, .int y] μ = some (some (.int (bN (cix σ 3 g x y).isSome)), μ) := by
  obtain ⟨k12, r0, -⟩ := h.s0
  rw [jC_run (by decide)]
  show jR (d + 2) 15 0 [.ref X, .int g, .int x, .int y] [] μ = _
  rw [b15_0]
  simp only [x_isInput, aI_eq, aB_eq, aR_eq, sI_eq, sB_eq, sR_eq, Option.bind_some, Option.bind_none, if_true, if_false, true_or, or_true, false_or, or_false, true_and, and_true, false_and, and_false, decide_eq_true_eq, decide_true, decide_false, eq_self, not_true_eq_false, not_false_eq_true, jfit0, N_lit, N_add, N_mul, NEG_eq, pl_none, pl_some, rf_some, rf_none, jun_ref, jun_null, ir_ref, ir_null, jr_rf, jun_rf, Option.toList_some, Option.toList_none, List.nil_append, List.cons_append]
  rw [b15_4]
  cases e : (ix 3 g).isSome with
  | false =>
    have : cix σ 3 g x y = none := by
      unfold cix
      cases e2 : ix 3 g with
      | none => rfl
      | some i => rw [e2] at e; cases e
    rw [this]
    simp only [bN_false, aI_eq, aB_eq, aR_eq, sI_eq, sB_eq, sR_eq, Option.bind_some, Option.bind_none, if_true, if_false, true_or, or_true, false_or, or_false, true_and, and_true, false_and, and_false, decide_eq_true_eq, decide_true, decide_false, eq_self, not_true_eq_false, not_false_eq_true, jfit0, N_lit, N_add, N_mul, NEG_eq, pl_none, pl_some, rf_some, rf_none, jun_ref, jun_null, ir_ref, ir_null, jr_rf, jun_rf, Option.toList_some, Option.toList_none, List.nil_append, List.cons_append, b15_21, b15_22, jrf40, Option.isSome_none]
  | true =>
    rw [cix_43 e]
    simp only [bN_true, N_lit, n10, if_false, gI12, gR12, pI12, pR12, rv12, aI_eq, aB_eq, aR_eq, sI_eq, sB_eq, sR_eq, Option.bind_some, Option.bind_none, if_true, if_false, true_or, or_true, false_or, or_false, true_and, and_true, false_and, and_false, decide_eq_true_eq, decide_true, decide_false, eq_self, not_true_eq_false, not_false_eq_true, jfit0, N_lit, N_add, N_mul, NEG_eq, pl_none, pl_some, rf_some, rf_none, jun_ref, jun_null, ir_ref, ir_null, jr_rf, jun_rf, Option.toList_some, Option.toList_none, List.nil_append, List.cons_append, k12, x_isCell h]
    rw [b15_14]
    cases (cix σ 4 g x y).isSome with
    | false => simp only [bN_false, aI_eq, aB_eq, aR_eq, sI_eq, sB_eq, sR_eq, Option.bind_some, Option.bind_none, if_true, if_false, true_or, or_true, false_or, or_false, true_and, and_true, false_and, and_false, decide_eq_true_eq, decide_true, decide_false, eq_self, not_true_eq_false, not_false_eq_true, jfit0, N_lit, N_add, N_mul, NEG_eq, pl_none, pl_some, rf_some, rf_none, jun_ref, jun_null, ir_ref, ir_null, jr_rf, jun_rf, Option.toList_some, Option.toList_none, List.nil_append, List.cons_append, b15_21, b15_22, jrf40]
    | true => simp only [bN_true, N_lit, n10, if_false, b15_22, jrf41, if_true]
theorem x_isInputRow (h : XR μ X σ) : jC (d + 1) 23 [.ref X, .int g, .int x] μ = some (some (.int (bN (rix σ g x).isSome)), μ) := by
  obtain ⟨k12, r0, -⟩ := h.s0
  rw [jC_run (by decide)]
  show jR (d + 1) 23 0 [.ref X, .int g, .int x] [] μ = _
  rw [b23_0]
  simp only [x_isInput, aI_eq, aB_eq, aR_eq, sI_eq, sB_eq, sR_eq, Option.bind_some, Option.bind_none, if_true, if_false, true_or, or_true, false_or, or_false, true_and, and_true, false_and, and_false, decide_eq_true_eq, decide_true, decide_false, eq_self, not_true_eq_false, not_false_eq_true, jfit0, N_lit, N_add, N_mul, NEG_eq, pl_none, pl_some, rf_some, rf_none, jun_ref, jun_null, ir_ref, ir_null, jr_rf, jun_rf, Option.toList_some, Option.toList_none, List.nil_append, List.cons_append]
  rw [b23_4]
  unfold rix
  cases e : ix 3 g with
  | none => simp only [Option.isSome_none, bN_false, aI_eq, aB_eq, aR_eq, sI_eq, sB_eq, sR_eq, Option.bind_some, Option.bind_none, if_true, if_false, true_or, or_true, false_or, or_false, true_and, and_true, false_and, and_false, decide_eq_true_eq, decide_true, decide_false, eq_self, not_true_eq_false, not_false_eq_true, jfit0, N_lit, N_add, N_mul, NEG_eq, pl_none, pl_some, rf_some, rf_none, jun_ref, jun_null, ir_ref, ir_null, jr_rf, jun_rf, Option.toList_some, Option.toList_none, List.nil_append, List.cons_append, b23_30, b23_31, jrf40]
  | some i =>
    obtain ⟨rfl, hi⟩ := ix_some (by decide) e
    simp only [Option.isSome_some, bN_true, N_lit, n10, if_false, Option.bind_some]
    rw [ix_cases]
    by_cases h1 : x < N 0
    · simp only [if_pos h1, Option.map_none, Option.isSome_none, bN_false, b23_30, b23_31, jrf40, if_true, N_lit]
    · simp only [if_neg h1, gI12, gR12, pI12, pR12, rv12, gI3, gR3, pI3, pR3, rv3, gI6, gR6, pI6, pR6, rv6, aI_eq, aB_eq, aR_eq, sI_eq, sB_eq, sR_eq, Option.bind_some, Option.bind_none, if_true, if_false, true_or, or_true, false_or, or_false, true_and, and_true, false_and, and_false, decide_eq_true_eq, decide_true, decide_false, eq_self, not_true_eq_false, not_false_eq_true, jfit0, N_lit, N_add, N_mul, NEG_eq, pl_none, pl_some, rf_some, rf_none, jun_ref, jun_null, ir_ref, ir_null, jr_rf, jun_rf, Option.toList_some, Option.toList_none, List.nil_append, List.cons_append, k12, r0, h.k3, t_gridAt h (show i < 4 by omega)]
      rw [b23_20 (hs1 := ir_ref)]
      simp only [gI6, gR6, pI6, pR6, rv6, aI_eq, aB_eq, aR_eq, sI_eq, sB_eq, sR_eq, Option.bind_some, Option.bind_none, if_true, if_false, true_or, or_true, false_or, or_false, true_and, and_true, false_and, and_false, decide_eq_true_eq, decide_true, decide_false, eq_self, not_true_eq_false, not_false_eq_true, jfit0, N_lit, N_add, N_mul, NEG_eq, pl_none, pl_some, rf_some, rf_none, jun_ref, jun_null, ir_ref, ir_null, jr_rf, jun_rf, Option.toList_some, Option.toList_none, List.nil_append, List.cons_append, h.k6 (show i < 4 by omega), h.nn (show i < 4 by omega)]
      by_cases h2 : x < N (σ.1.1 i).length
      · simp only [if_pos h2, Option.map_some, Option.isSome_some, bN_true, b23_31, jrf41, if_true, N_lit]
      · simp only [if_neg h2, Option.map_none, Option.isSome_none, bN_false, b23_30, b23_31, jrf40, if_true, N_lit]
theorem rix_3 {σ : SG} {p : Nat × Nat} (h : rix σ g x = some p) (hl : ∀ i, i < 4 → (σ.1.1 i).length ≤ 8) : g = N p.1 ∧ p.1 < 3 ∧ x = N p.2 ∧ p.2 < (σ.1.1 p.1).length := by
  unfold rix at h
  cases e : ix 3 g with
  | none => rw [e] at h; cases h
  | some i =>
    obtain ⟨rfl, hi⟩ := ix_some (by decide) e
    rw [e] at h
    simp only [Option.bind_some] at h
    cases e2 : ix (σ.1.1 i).length x with
    | none => rw [e2] at h; cases h
    | some j =>
      obtain ⟨rfl, hj⟩ := ix_some (by have := hl i (by omega); omega) e2
      rw [e2] at h
      cases h
      exact ⟨rfl, hi, rfl, hj⟩
/-- a grid of the board anew -/
theorem x_setG {v : DG} (hb : BI μ X) (h : XR μ X σ) (hi : i < 4) (F : FG (gA X i) μ μ') (hv : GV μ' (X + 766) (gA X i)) (e : dG μ' (xA (gA X i)) = v) : XT μ X μ' (stg σ i v) 0 0 := by
  refine XR.one (k := 1) hb h (by decide) (Fx.fa F hb.1) (fun a g => ?_) (fun a j g => ?_) (BR.setG h.bb hi F hv e) (fun i hi hne h => by rcases (show i = 0 ∨ i = 1 ∨ i = 2 ∨ i = 3 ∨ i = 4 ∨ i = 5 ∨ i = 6 ∨ i = 7 ∨ i = 8 ∨ i = 9 ∨ i = 10 ∨ i = 11 ∨ i = 12 by omega) with rfl | rfl | rfl | rfl | rfl | rfl | rfl | rfl | rfl | rfl | rfl | rfl | rfl <;> first | exact absurd rfl hne | exact h)
  · have g : gA X i ≤ a ∧ a < gA X i + 6 := g
    unfold gA at g
    show X + 1 ≤ a ∧ a < X + 138; omega
  · have g : a = gA X i + 4 := g
    unfold gA at g
    show X + 1 ≤ a ∧ a < X + 138; omega
theorem t_forgetA (hb : BI μ X) (h : XR μ X σ) : ∃ μ', jC (d + 1) 20 [.ref X] μ = some (none, μ') ∧ XT μ X μ' (fgt σ) 0 0 ∧ AgR (X + 275) (X + 289) μ μ' := by
  obtain ⟨k12, r0, r1, r3, r4, r5, r6, -⟩ := h.s0
  have h5 := h 5 (by decide)
  obtain ⟨μ1, c1, F1, C1, e1⟩ := d_clear (d := d) h5.1
  have T1 : XT μ X μ1 (scl σ [] σ.2.2.2.2.1) 0 0 := by
    refine XR.one (k := 5) hb h (by decide) (Fx.fa F1 hb.1) (fun a g => ?_) (fun a j g => g.elim) ⟨C1, e1⟩ (fun i hi hne h => by rcases (show i = 0 ∨ i = 1 ∨ i = 2 ∨ i = 3 ∨ i = 4 ∨ i = 5 ∨ i = 6 ∨ i = 7 ∨ i = 8 ∨ i = 9 ∨ i = 10 ∨ i = 11 ∨ i = 12 by omega) with rfl | rfl | rfl | rfl | rfl | rfl | rfl | rfl | rfl | rfl | rfl | rfl | rfl <;> first | exact absurd rfl hne | exact h)
    have g : X + 289 ≤ a ∧ a < X + 289 + 5 := g
    show X + 289 ≤ a ∧ a < X + 294; omega
  have k12' := T1.2.2.s0.1
  have F2 : Fx (fun a => a = X) (fun _ _ => False) μ1 (jsetI μ1 X 7 (N 0)) := by
    refine Fx.setI Fx.refl ?_
    exact (rfl : X = X)
  have T2 : XT μ1 X (jsetI μ1 X 7 (N 0)) (fgt σ) 0 0 := by
    refine XR.one (k := 0) (σ := scl σ [] σ.2.2.2.2.1) T1.2.1 T1.2.2 (by decide) (Fx.fa F2 T1.2.1.1) (fun a g => ?_) (fun a j g => g.elim) ?_ (fun i hi hne h => by rcases (show i = 0 ∨ i = 1 ∨ i = 2 ∨ i = 3 ∨ i = 4 ∨ i = 5 ∨ i = 6 ∨ i = 7 ∨ i = 8 ∨ i = 9 ∨ i = 10 ∨ i = 11 ∨ i = 12 by omega) with rfl | rfl | rfl | rfl | rfl | rfl | rfl | rfl | rfl | rfl | rfl | rfl | rfl <;> first | exact absurd rfl hne | exact h)
    · have g : a = X := g
      show X + 0 ≤ a ∧ a < X + 1; omega
    · obtain ⟨g1, g2, g3⟩ := T1.2.2 0 (by decide)
      refine ⟨g1, ?_, ?_⟩
      · refine Eq.trans ?_ g2
        simp [iv_setI]
      · simp [iv_setI]; rfl
  refine ⟨jsetI μ1 X 7 (N 0), ?_, T1.trans T2, fun a h1 h2 => ?_⟩
  rotate_left
  · have e1 : jiv μ1 a = jiv μ a := F1.iv (by show ¬ (X + 289 ≤ a ∧ _); omega)
    have e2 : jiv (jsetI μ1 X 7 (N 0)) a = jiv μ1 a := F2.iv (by show ¬ a = X; omega)
    exact ⟨by rw [F2.kk, F1.kk], by rw [F2.ll, F1.ll], e2.trans e1, by funext j; rw [F2.rv id, F1.rv id]⟩
  rw [jC_run (by decide)]
  show jR (d + 1) 20 0 [.ref X] [] μ = _
  simp only [b20_0, gI12, gR12, pI12, pR12, rv12, gI4, gR4, pI4, pR4, rv4, aI_eq, aB_eq, aR_eq, sI_eq, sB_eq, sR_eq, Option.bind_some, Option.bind_none, if_true, if_false, true_or, or_true, false_or, or_false, true_and, and_true, false_and, and_false, decide_eq_true_eq, decide_true, decide_false, eq_self, not_true_eq_false, not_false_eq_true, jfit0, N_lit, N_add, N_mul, NEG_eq, pl_none, pl_some, rf_some, rf_none, jun_ref, jun_null, ir_ref, ir_null, jr_rf, jun_rf, Option.toList_some, Option.toList_none, List.nil_append, List.cons_append, k12, r6, h.k4, c1, b20_7, k12', jfit2_0]
theorem t_forget (hb : BI μ X) (h : XR μ X σ) : ∃ μ', jC (d + 1) 20 [.ref X] μ = some (none, μ') ∧ XT μ X μ' (fgt σ) 0 0 := by
  obtain ⟨μ', c, T, -⟩ := t_forgetA (d := d) hb h
  exact ⟨μ', c, T⟩
theorem t_beginA (hb : BI μ X) (h : XR μ X σ) : ∃ μ', jC (d + 3) 19 [.ref X] μ = some (none, μ') ∧ XT μ X μ' (chg σ) 0 0 ∧ AgR (X + 275) (X + 289) μ μ' := by
  obtain ⟨k12, r0, r1, r3, r4, r5, r6, -⟩ := h.s0
  obtain ⟨μ1, c1, F1, C1⟩ := d_keepForUndo (d := d) h.bb
  have T1 : XT μ X μ1 ((σ.1.1, σ.1.2.1, (σ.1.1 :: σ.1.2.2).take 6), σ.2) 0 0 := by
    refine XR.one (k := 1) hb h (by decide) (Fx.fa F1 hb.1) (fun a g => ?_) (fun a j g => ?_) C1 (fun i hi hne h => by rcases (show i = 0 ∨ i = 1 ∨ i = 2 ∨ i = 3 ∨ i = 4 ∨ i = 5 ∨ i = 6 ∨ i = 7 ∨ i = 8 ∨ i = 9 ∨ i = 10 ∨ i = 11 ∨ i = 12 by omega) with rfl | rfl | rfl | rfl | rfl | rfl | rfl | rfl | rfl | rfl | rfl | rfl | rfl <;> first | exact absurd rfl hne | exact h)
    · have g : X + 1 ≤ a ∧ a < X + 1 + 137 := g
      show X + 1 ≤ a ∧ a < X + 138; omega
    · have g : X + 1 ≤ a ∧ a < X + 1 + 137 := g
      show X + 1 ≤ a ∧ a < X + 138; omega
  have k12' := T1.2.2.s0.1
  obtain ⟨μ2, c2, T2, A2⟩ := t_forgetA (d := d + 1) T1.2.1 T1.2.2
  refine ⟨μ2, ?_, T1.trans T2, fun a h1 h2 => ?_⟩
  rotate_left
  · have e1 : jiv μ1 a = jiv μ a := F1.iv (by show ¬ (X + 1 ≤ a ∧ a < X + 1 + 137); omega)
    obtain ⟨a1, a2, a3, a4⟩ := A2 a h1 h2
    exact ⟨by rw [a1, F1.kk], by rw [a2, F1.ll], a3.trans e1, by rw [a4]; funext j; exact F1.rv (by show ¬ (X + 1 ≤ a ∧ a < X + 1 + 137); omega)⟩
  rw [jC_run (by decide)]
  show jR (d + 3) 19 0 [.ref X] [] μ = _
  simp only [b19_0, gI12, gR12, pI12, pR12, rv12, gI3, gR3, pI3, pR3, rv3, aI_eq, aB_eq, aR_eq, sI_eq, sB_eq, sR_eq, Option.bind_some, Option.bind_none, if_true, if_false, true_or, or_true, false_or, or_false, true_and, and_true, false_and, and_false, decide_eq_true_eq, decide_true, decide_false, eq_self, not_true_eq_false, not_false_eq_true, jfit0, N_lit, N_add, N_mul, NEG_eq, pl_none, pl_some, rf_some, rf_none, jun_ref, jun_null, ir_ref, ir_null, jr_rf, jun_rf, Option.toList_some, Option.toList_none, List.nil_append, List.cons_append, k12, r0, h.k3, c1, b19_7, k12', c2, b19_11]
theorem t_begin (hb : BI μ X) (h : XR μ X σ) : ∃ μ', jC (d + 3) 19 [.ref X] μ = some (none, μ') ∧ XT μ X μ' (chg σ) 0 0 := by
  obtain ⟨μ', c, T, -⟩ := t_beginA (d := d) hb h
  exact ⟨μ', c, T⟩
theorem stg_at {v : DG} : (stg σ i v).1.1 i = v := by
  show updf σ.1.1 i v i = v
  unfold updf
  rw [if_pos rfl]
theorem XR.len8 (h : XR μ X σ) : ∀ i, i < 4 → (σ.1.1 i).length ≤ 8 := fun _ hi => h.l8 hi
theorem op_bad {mi : Nat} {as : List Value} (hb : BI μ X) (h : XR μ X σ) {r : Int32} (e : jC d mi as μ = some (some (.int r), μ)) : OP d mi as μ X (r, σ) n w := ⟨μ, e, XT.refl hb h⟩
theorem t_row (hb : BI μ X) (h : XR μ X σ) : OP (d + 4) 21 [.ref X, .int g, .int x, .int y] μ X (o_row σ g x y) 0 0 := by
  obtain ⟨k12, r0, -⟩ := h.s0
  unfold OP
  rw [jC_run (by decide)]
  show ∃ μ', jR (d + 4) 21 0 [.ref X, .int g, .int x, .int y, .retAddr 0] [] μ = _ ∧ _
  rw [b21_0]
  simp only [x_isInput, aI_eq, aB_eq, aR_eq, sI_eq, sB_eq, sR_eq, Option.bind_some, Option.bind_none, if_true, if_false, true_or, or_true, false_or, or_false, true_and, and_true, false_and, and_false, decide_eq_true_eq, decide_true, decide_false, eq_self, not_true_eq_false, not_false_eq_true, jfit0, N_lit, N_add, N_mul, NEG_eq, pl_none, pl_some, rf_some, rf_none, jun_ref, jun_null, ir_ref, ir_null, jr_rf, jun_rf, Option.toList_some, Option.toList_none, List.nil_append, List.cons_append]
  rw [b21_4]
  unfold o_row
  cases e : ix 3 g with
  | none =>
    refine ⟨μ, ?_, XT.refl hb h⟩
    simp only [Option.isSome_none, bN_false, N_lit, if_true, b21_36]
  | some i =>
    obtain ⟨rfl, hi⟩ := ix_some (by decide) e
    have hi4 : i < 4 := by omega
    have hl := h.l8 hi4
    simp only [Option.isSome_some, bN_true, N_lit, n10, if_false, gI12, gR12, pI12, pR12, rv12, gI3, gR3, pI3, pR3, rv3, aI_eq, aB_eq, aR_eq, sI_eq, sB_eq, sR_eq, Option.bind_some, Option.bind_none, if_true, if_false, true_or, or_true, false_or, or_false, true_and, and_true, false_and, and_false, decide_eq_true_eq, decide_true, decide_false, eq_self, not_true_eq_false, not_false_eq_true, jfit0, N_lit, N_add, N_mul, NEG_eq, pl_none, pl_some, rf_some, rf_none, jun_ref, jun_null, ir_ref, ir_null, jr_rf, jun_rf, Option.toList_some, Option.toList_none, List.nil_append, List.cons_append, k12, r0, h.k3, t_gridAt h hi4]
    rw [b21_17 (hs2 := ir_ref)]
    simp only [gI6, gR6, pI6, pR6, rv6, aI_eq, aB_eq, aR_eq, sI_eq, sB_eq, sR_eq, Option.bind_some, Option.bind_none, if_true, if_false, true_or, or_true, false_or, or_false, true_and, and_true, false_and, and_false, decide_eq_true_eq, decide_true, decide_false, eq_self, not_true_eq_false, not_false_eq_true, jfit0, N_lit, N_add, N_mul, NEG_eq, pl_none, pl_some, rf_some, rf_none, jun_ref, jun_null, ir_ref, ir_null, jr_rf, jun_rf, Option.toList_some, Option.toList_none, List.nil_append, List.cons_append, h.k6 hi4, h.nn hi4, x_isIn]
    rw [b21_23]
    have e1 : (¬ x < N 0 ∧ ¬ N (σ.1.1 i).length < x) ↔ ∃ j, ix ((σ.1.1 i).length + 1) x = some j := by
      rw [ix_cases]
      by_cases h1 : x < N 0
      · rw [if_pos h1]; exact ⟨fun g => absurd h1 g.1, fun ⟨j, hj⟩ => by cases hj⟩
      · obtain ⟨b, hb, rfl⟩ := N_of h1
        simp only [if_neg h1, N_lt (show (σ.1.1 i).length < 2147483648 by omega) hb, N_lt hb (show (σ.1.1 i).length + 1 < 2147483648 by omega)]
        by_cases h2 : b < (σ.1.1 i).length + 1
        · simp only [if_pos h2]; exact ⟨fun _ => ⟨_, rfl⟩, fun _ => ⟨h1, by omega⟩⟩
        · simp only [if_neg h2]; exact ⟨fun g => by omega, fun ⟨j, hj⟩ => by cases hj⟩
    cases e2 : ix ((σ.1.1 i).length + 1) x with
    | none =>
      refine ⟨μ, ?_, XT.refl hb h⟩
      rw [pN_neg (fun g => by obtain ⟨j, hj⟩ := e1.mp g; rw [e2] at hj; cases hj), if_pos (by rfl), b21_36]; rfl
    | some j =>
      obtain ⟨rfl, hj⟩ := ix_some (by omega) e2
      rw [pN_pos (e1.mpr ⟨j, e2⟩), N_lit, if_neg (by rw [n10]; exact id)]
      simp only [x_isIn, aI_eq, aB_eq, aR_eq, sI_eq, sB_eq, sR_eq, Option.bind_some, Option.bind_none, if_true, if_false, true_or, or_true, false_or, or_false, true_and, and_true, false_and, and_false, decide_eq_true_eq, decide_true, decide_false, eq_self, not_true_eq_false, not_false_eq_true, jfit0, N_lit, N_add, N_mul, NEG_eq, pl_none, pl_some, rf_some, rf_none, jun_ref, jun_null, ir_ref, ir_null, jr_rf, jun_rf, Option.toList_some, Option.toList_none, List.nil_append, List.cons_append]
      rw [b21_33]
      by_cases e3 : y < N 1 ∨ N 99 < y
      · refine ⟨μ, ?_, ?_⟩
        · rw [pN_neg (fun g => e3.elim g.1 g.2), if_pos (by rfl), b21_36]
          simp only [if_pos e3]; rfl
        · simp only [if_pos e3]; exact XT.refl hb h
      · rw [pN_pos ⟨fun g => e3 (Or.inl g), fun g => e3 (Or.inr g)⟩]
        simp only [if_neg e3, N_lit, n10, if_false, gI12, gR12, pI12, pR12, rv12, gI3, gR3, pI3, pR3, rv3, aI_eq, aB_eq, aR_eq, sI_eq, sB_eq, sR_eq, Option.bind_some, Option.bind_none, if_true, if_false, true_or, or_true, false_or, or_false, true_and, and_true, false_and, and_false, decide_eq_true_eq, decide_true, decide_false, eq_self, not_true_eq_false, not_false_eq_true, jfit0, N_lit, N_add, N_mul, NEG_eq, pl_none, pl_some, rf_some, rf_none, jun_ref, jun_null, ir_ref, ir_null, jr_rf, jun_rf, Option.toList_some, Option.toList_none, List.nil_append, List.cons_append, k12, r0, h.k3, t_gridAt h hi4]
        rw [b21_47 (hs0 := ir_ref)]
        simp only [gI6, gR6, pI6, pR6, rv6, aI_eq, aB_eq, aR_eq, sI_eq, sB_eq, sR_eq, Option.bind_some, Option.bind_none, if_true, if_false, true_or, or_true, false_or, or_false, true_and, and_true, false_and, and_false, decide_eq_true_eq, decide_true, decide_false, eq_self, not_true_eq_false, not_false_eq_true, jfit0, N_lit, N_add, N_mul, NEG_eq, pl_none, pl_some, rf_some, rf_none, jun_ref, jun_null, ir_ref, ir_null, jr_rf, jun_rf, Option.toList_some, Option.toList_none, List.nil_append, List.cons_append, h.k6 hi4, d_placeOf (h.gg hi4).1, (h.gg hi4).2]
        rw [b21_55 (h4 := ir_ref)]
        cases e4 : lfind y (σ.1.1 i) with
        | some p =>
          have hp := lfind_lt e4
          simp only [pl_some, N_lit, NEG_eq, N_NEG (show p < 2147483648 by omega), if_false, Option.isSome_some, if_true]
          exact ⟨μ, rfl, XT.refl hb h⟩
        | none =>
          simp only [pl_none, N_lit, NEG_eq, if_true, Option.isSome_none, gI6, gR6, pI6, pR6, rv6, aI_eq, aB_eq, aR_eq, sI_eq, sB_eq, sR_eq, Option.bind_some, Option.bind_none, if_true, if_false, true_or, or_true, false_or, or_false, true_and, and_true, false_and, and_false, decide_eq_true_eq, decide_true, decide_false, eq_self, not_true_eq_false, not_false_eq_true, jfit0, N_lit, N_add, N_mul, NEG_eq, pl_none, pl_some, rf_some, rf_none, jun_ref, jun_null, ir_ref, ir_null, jr_rf, jun_rf, Option.toList_some, Option.toList_none, List.nil_append, List.cons_append, h.k6 hi4, h.nn hi4, N_lt (show (σ.1.1 i).length < 2147483648 by omega) (show 8 < 2147483648 by decide), k12, gI12, gR12, pI12, pR12, rv12]
          by_cases e5 : 8 ≤ (σ.1.1 i).length
          · rw [if_neg (by omega)]
            simp only [if_pos e5]
            exact ⟨μ, rfl, XT.refl hb h⟩
          · rw [if_pos (by omega)]
            simp only [if_neg e5]
            obtain ⟨μ1, c1, T1⟩ := t_begin (d := d) hb h
            obtain ⟨hg1, hd1⟩ := T1.2.2.gg hi4
            have hd1 : dG μ1 (xA (gA X i)) = σ.1.1 i := hd1
            obtain ⟨μ2, c2, F2, G2, d2⟩ := d_insertRow (d := d) (t := j) (k := y) hg1 (by rw [hd1]; omega) (by rw [hd1]; omega)
            have T2 := x_setG T1.2.1 T1.2.2 hi4 F2 G2 d2
            rw [hd1] at T2
            have n2 := T2.2.2.nn hi4
            refine ⟨μ2, ?_, T1.trans T2⟩
            simp only [c1, Option.bind_some, Option.toList_none, List.nil_append]
            rw [b21_79 (h4 := ir_ref)]
            have e6 : ((stg (chg σ) i ((σ.1.1 i).insertIdx j (y, zc [], zc [], zc []))).1.1 i).length = (σ.1.1 i).length + 1 := by
              rw [stg_at, List.length_insertIdx, if_pos (by omega)]
            rw [e6] at n2
            simp only [gI6, gR6, pI6, pR6, rv6, aI_eq, aB_eq, aR_eq, sI_eq, sB_eq, sR_eq, Option.bind_some, Option.bind_none, if_true, if_false, true_or, or_true, false_or, or_false, true_and, and_true, false_and, and_false, decide_eq_true_eq, decide_true, decide_false, eq_self, not_true_eq_false, not_false_eq_true, jfit0, N_lit, N_add, N_mul, NEG_eq, pl_none, pl_some, rf_some, rf_none, jun_ref, jun_null, ir_ref, ir_null, jr_rf, jun_rf, Option.toList_some, Option.toList_none, List.nil_append, List.cons_append, T1.2.2.k6 hi4, c2, T2.2.2.k6 hi4, n2]
            rw [b21_86 (h4 := ir_ref)]
            simp only [gI6, gR6, pI6, pR6, rv6, aI_eq, aB_eq, aR_eq, sI_eq, sB_eq, sR_eq, Option.bind_some, Option.bind_none, if_true, if_false, true_or, or_true, false_or, or_false, true_and, and_true, false_and, and_false, decide_eq_true_eq, decide_true, decide_false, eq_self, not_true_eq_false, not_false_eq_true, jfit0, N_lit, N_add, N_mul, NEG_eq, pl_none, pl_some, rf_some, rf_none, jun_ref, jun_null, ir_ref, ir_null, jr_rf, jun_rf, Option.toList_some, Option.toList_none, List.nil_append, List.cons_append, T2.2.2.k6 hi4, n2, Bool.false_eq_true]
end TOP
