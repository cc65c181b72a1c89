/-! THE CLASS's CALLS: rows gone and moved, notes, likeness, rules -/
section TOP
variable {μ μ' μ'' : jM} {n w m v lo hi a b r q s D d X i k : Nat} {σ σ' : SG} {x y z u g c : Int32}
theorem t_drop (hb : BI μ X) (h : XR μ X σ) : OP (d + 4) 22 [.ref X, .int g, .int x] μ X (o_drop σ g x) 0 0 := by
  obtain ⟨k12, r0, -⟩ := h.s0
  unfold OP
  rw [jC_run (by decide)]
  show ∃ μ', jR (d + 4) 22 0 [.ref X, .int g, .int x, .retAddr 0] [] μ = _ ∧ _
  rw [b22_0]
  simp only [x_isInputRow h, gI12, gR12, pI12, pR12, rv12, aI_eq, aB_eq, aR_eq, sI_eq, sB_eq, sR_eq, Option.bind_some, Option.bind_none, if_true, if_false, true_or, or_true, false_or, or_false, true_and, and_true, false_and, and_false, decide_eq_true_eq, decide_true, decide_false, eq_self, not_true_eq_false, not_false_eq_true, jfit0, N_lit, N_add, N_mul, NEG_eq, pl_none, pl_some, rf_some, rf_none, jun_ref, jun_null, ir_ref, ir_null, jr_rf, jun_rf, Option.toList_some, Option.toList_none, List.nil_append, List.cons_append, k12]
  rw [b22_6]
  unfold o_drop
  cases e : rix σ g x with
  | none =>
    refine ⟨μ, ?_, XT.refl hb h⟩
    simp only [Option.isSome_none, bN_false, N_lit, if_true]
  | some p =>
    obtain ⟨rfl, hi, rfl, hp⟩ := rix_3 e h.len8
    have hi4 : p.1 < 4 := by omega
    have hl := h.l8 hi4
    obtain ⟨μ1, c1, T1⟩ := t_begin (d := d) hb h
    have h1 := T1.2.2
    obtain ⟨j12, j0, -⟩ := h1.s0
    obtain ⟨hg1, hd1⟩ := h1.gg hi4
    have hd1 : dG μ1 (xA (gA X p.1)) = σ.1.1 p.1 := hd1
    obtain ⟨μ2, c2, F2, G2, d2⟩ := d_removeRow (d := d) (p := p.2) hg1 (by rw [hd1]; exact hp)
    have T2 := x_setG T1.2.1 h1 hi4 F2 G2 d2
    rw [hd1] at T2
    refine ⟨μ2, ?_, T1.trans T2⟩
    simp only [Option.isSome_some, bN_true, N_lit, n10, if_false, gI12, gR12, pI12, pR12, rv12, gI3, gR3, pI3, pR3, rv3, aI_eq, aB_eq, aR_eq, sI_eq, sB_eq, sR_eq, Option.bind_some, Option.bind_none, if_true, if_false, true_or, or_true, false_or, or_false, true_and, and_true, false_and, and_false, decide_eq_true_eq, decide_true, decide_false, eq_self, not_true_eq_false, not_false_eq_true, jfit0, N_lit, N_add, N_mul, NEG_eq, pl_none, pl_some, rf_some, rf_none, jun_ref, jun_null, ir_ref, ir_null, jr_rf, jun_rf, Option.toList_some, Option.toList_none, List.nil_append, List.cons_append, k12, c1, b22_16, j12, j0, h1.k3, t_gridAt h1 hi4]
    rw [b22_24 (hs0 := ir_ref)]
    simp only [gI6, gR6, pI6, pR6, rv6, aI_eq, aB_eq, aR_eq, sI_eq, sB_eq, sR_eq, Option.bind_some, Option.bind_none, if_true, if_false, true_or, or_true, false_or, or_false, true_and, and_true, false_and, and_false, decide_eq_true_eq, decide_true, decide_false, eq_self, not_true_eq_false, not_false_eq_true, jfit0, N_lit, N_add, N_mul, NEG_eq, pl_none, pl_some, rf_some, rf_none, jun_ref, jun_null, ir_ref, ir_null, jr_rf, jun_rf, Option.toList_some, Option.toList_none, List.nil_append, List.cons_append, h1.k6 hi4, d_keyAt hg1 (show p.2 < 2147483648 by omega), hd1]
    rw [b22_28]
    simp only [gI12, gR12, pI12, pR12, rv12, gI3, gR3, pI3, pR3, rv3, aI_eq, aB_eq, aR_eq, sI_eq, sB_eq, sR_eq, Option.bind_some, Option.bind_none, if_true, if_false, true_or, or_true, false_or, or_false, true_and, and_true, false_and, and_false, decide_eq_true_eq, decide_true, decide_false, eq_self, not_true_eq_false, not_false_eq_true, jfit0, N_lit, N_add, N_mul, NEG_eq, pl_none, pl_some, rf_some, rf_none, jun_ref, jun_null, ir_ref, ir_null, jr_rf, jun_rf, Option.toList_some, Option.toList_none, List.nil_append, List.cons_append, j12, j0, h1.k3, t_gridAt h1 hi4]
    rw [b22_37 (hs0 := ir_ref)]
    simp only [gI6, gR6, pI6, pR6, rv6, aI_eq, aB_eq, aR_eq, sI_eq, sB_eq, sR_eq, Option.bind_some, Option.bind_none, if_true, if_false, true_or, or_true, false_or, or_false, true_and, and_true, false_and, and_false, decide_eq_true_eq, decide_true, decide_false, eq_self, not_true_eq_false, not_false_eq_true, jfit0, N_lit, N_add, N_mul, NEG_eq, pl_none, pl_some, rf_some, rf_none, jun_ref, jun_null, ir_ref, ir_null, jr_rf, jun_rf, Option.toList_some, Option.toList_none, List.nil_append, List.cons_append, h1.k6 hi4, c2, b22_41]
theorem t_move (hb : BI μ X) (h : XR μ X σ) : OP (d + 4) 24 [.ref X, .int g, .int x, .int y] μ X (o_move σ g x y) 0 0 := by
  obtain ⟨k12, r0, -⟩ := h.s0
  unfold OP
  rw [jC_run (by decide)]
  show ∃ μ', jR (d + 4) 24 0 [.ref X, .int g, .int x, .int y] [] μ = _ ∧ _
  rw [b24_0]
  simp only [x_isInputRow h, gI12, gR12, pI12, pR12, rv12, aI_eq, aB_eq, aR_eq, sI_eq, sB_eq, sR_eq, Option.bind_some, Option.bind_none, if_true, if_false, true_or, or_true, false_or, or_false, true_and, and_true, false_and, and_false, decide_eq_true_eq, decide_true, decide_false, eq_self, not_true_eq_false, not_false_eq_true, jfit0, N_lit, N_add, N_mul, NEG_eq, pl_none, pl_some, rf_some, rf_none, jun_ref, jun_null, ir_ref, ir_null, jr_rf, jun_rf, Option.toList_some, Option.toList_none, List.nil_append, List.cons_append, k12]
  rw [b24_6]
  unfold o_move
  cases e : rix σ g x with
  | none =>
    refine ⟨μ, ?_, XT.refl hb h⟩
    simp only [Option.isSome_none, bN_false, N_lit, if_true, b24_18]
  | some p =>
    obtain ⟨rfl, hi, rfl, hp⟩ := rix_3 e h.len8
    have hi4 : p.1 < 4 := by omega
    have hl := h.l8 hi4
    simp only [Option.isSome_some, bN_true, N_lit, n10, if_false, gI12, gR12, pI12, pR12, rv12, aI_eq, aB_eq, aR_eq, sI_eq, sB_eq, sR_eq, Option.bind_some, Option.bind_none, if_true, if_false, true_or, or_true, false_or, or_false, true_and, and_true, false_and, and_false, decide_eq_true_eq, decide_true, decide_false, eq_self, not_true_eq_false, not_false_eq_true, jfit0, N_lit, N_add, N_mul, NEG_eq, pl_none, pl_some, rf_some, rf_none, jun_ref, jun_null, ir_ref, ir_null, jr_rf, jun_rf, Option.toList_some, Option.toList_none, List.nil_append, List.cons_append, k12, x_isInputRow h]
    rw [b24_15]
    have e0 : rix σ (N p.1) y = (ix (σ.1.1 p.1).length y).map fun r => (p.1, r) := by
      unfold rix
      rw [ix_N (by decide) hi]; rfl
    rw [e0]
    cases e2 : ix (σ.1.1 p.1).length y with
    | none =>
      refine ⟨μ, ?_, XT.refl hb h⟩
      simp only [Option.map_none, Option.isSome_none, bN_false, N_lit, if_true, b24_18]
    | some t =>
      obtain ⟨rfl, ht⟩ := ix_some (by omega) e2
      obtain ⟨μ1, c1, T1⟩ := t_begin (d := d) hb h
      have h1 := T1.2.2
      obtain ⟨j12, j0, -⟩ := h1.s0
      obtain ⟨hg1, hd1⟩ := h1.gg hi4
      have hd1 : dG μ1 (xA (gA X p.1)) = σ.1.1 p.1 := hd1
      obtain ⟨μ2, c2, F2, G2, d2⟩ := d_moveRow (d := d + 1) (p := p.2) (t := t) hg1 (by rw [hd1]; exact hp) (by rw [hd1]; exact ht)
      have T2 := x_setG T1.2.1 h1 hi4 F2 G2 d2
      rw [hd1] at T2 d2
      have h2 := T2.2.2
      obtain ⟨l12, l0, -⟩ := h2.s0
      refine ⟨μ2, ?_, T1.trans T2⟩
      simp only [Option.map_some, Option.isSome_some, bN_true, N_lit, n10, if_false, gI12, gR12, pI12, pR12, rv12, gI3, gR3, pI3, pR3, rv3, aI_eq, aB_eq, aR_eq, sI_eq, sB_eq, sR_eq, Option.bind_some, Option.bind_none, if_true, if_false, true_or, or_true, false_or, or_false, true_and, and_true, false_and, and_false, decide_eq_true_eq, decide_true, decide_false, eq_self, not_true_eq_false, not_false_eq_true, jfit0, N_lit, N_add, N_mul, NEG_eq, pl_none, pl_some, rf_some, rf_none, jun_ref, jun_null, ir_ref, ir_null, jr_rf, jun_rf, Option.toList_some, Option.toList_none, List.nil_append, List.cons_append, k12, c1, b24_25, j12, j0, h1.k3, t_gridAt h1 hi4]
      rw [b24_33 (hs0 := ir_ref)]
      simp only [gI6, gR6, pI6, pR6, rv6, aI_eq, aB_eq, aR_eq, sI_eq, sB_eq, sR_eq, Option.bind_some, Option.bind_none, if_true, if_false, true_or, or_true, false_or, or_false, true_and, and_true, false_and, and_false, decide_eq_true_eq, decide_true, decide_false, eq_self, not_true_eq_false, not_false_eq_true, jfit0, N_lit, N_add, N_mul, NEG_eq, pl_none, pl_some, rf_some, rf_none, jun_ref, jun_null, ir_ref, ir_null, jr_rf, jun_rf, Option.toList_some, Option.toList_none, List.nil_append, List.cons_append, h1.k6 hi4, c2]
      rw [b24_38]
      simp only [gI12, gR12, pI12, pR12, rv12, gI3, gR3, pI3, pR3, rv3, aI_eq, aB_eq, aR_eq, sI_eq, sB_eq, sR_eq, Option.bind_some, Option.bind_none, if_true, if_false, true_or, or_true, false_or, or_false, true_and, and_true, false_and, and_false, decide_eq_true_eq, decide_true, decide_false, eq_self, not_true_eq_false, not_false_eq_true, jfit0, N_lit, N_add, N_mul, NEG_eq, pl_none, pl_some, rf_some, rf_none, jun_ref, jun_null, ir_ref, ir_null, jr_rf, jun_rf, Option.toList_some, Option.toList_none, List.nil_append, List.cons_append, l12, l0, h2.k3, t_gridAt h2 hi4]
      rw [b24_46 (hs0 := ir_ref)]
      simp only [gI6, gR6, pI6, pR6, rv6, aI_eq, aB_eq, aR_eq, sI_eq, sB_eq, sR_eq, Option.bind_some, Option.bind_none, if_true, if_false, true_or, or_true, false_or, or_false, true_and, and_true, false_and, and_false, decide_eq_true_eq, decide_true, decide_false, eq_self, not_true_eq_false, not_false_eq_true, jfit0, N_lit, N_add, N_mul, NEG_eq, pl_none, pl_some, rf_some, rf_none, jun_ref, jun_null, ir_ref, ir_null, jr_rf, jun_rf, Option.toList_some, Option.toList_none, List.nil_append, List.cons_append, h2.k6 hi4, d_keyAt G2 (show t < 2147483648 by omega), d2, b24_50]
theorem t_note (hb : BI μ X) (h : XR μ X σ) : OP (d + 4) 25 [.ref X, .int g, .int x, .int y, .int z] μ X (o_note σ g x y z) 0 0 := by
  obtain ⟨k12, r0, -⟩ := h.s0
  unfold OP
  rw [jC_run (by decide)]
  show ∃ μ', jR (d + 4) 25 0 [.ref X, .int g, .int x, .int y, .int z, .retAddr 0] [] μ = _ ∧ _
  rw [b25_0]
  simp only [x_isInputCell h, gI12, gR12, pI12, pR12, rv12, aI_eq, aB_eq, aR_eq, sI_eq, sB_eq, sR_eq, Option.bind_some, Option.bind_none, if_true, if_false, true_or, or_true, false_or, or_false, true_and, and_true, false_and, and_false, decide_eq_true_eq, decide_true, decide_false, eq_self, not_true_eq_false, not_false_eq_true, jfit0, N_lit, N_add, N_mul, NEG_eq, pl_none, pl_some, rf_some, rf_none, jun_ref, jun_null, ir_ref, ir_null, jr_rf, jun_rf, Option.toList_some, Option.toList_none, List.nil_append, List.cons_append, k12]
  rw [b25_7]
  unfold o_note
  cases e : cix σ 3 g x y with
  | none =>
    refine ⟨μ, ?_, XT.refl hb h⟩
    simp only [Option.isSome_none, bN_false, N_lit, if_true, b25_21]
  | some p =>
    obtain ⟨rfl, hi, rfl, hp, rfl, hc⟩ := cix_3 e h.len8
    have hi4 : p.1 < 4 := by omega
    have hl := h.l8 hi4
    simp only [Option.isSome_some, bN_true, N_lit, n10, if_false, x_isIn, aI_eq, aB_eq, aR_eq, sI_eq, sB_eq, sR_eq, Option.bind_some, Option.bind_none, if_true, if_false, true_or, or_true, false_or, or_false, true_and, and_true, false_and, and_false, decide_eq_true_eq, decide_true, decide_false, eq_self, not_true_eq_false, not_false_eq_true, jfit0, N_lit, N_add, N_mul, NEG_eq, pl_none, pl_some, rf_some, rf_none, jun_ref, jun_null, ir_ref, ir_null, jr_rf, jun_rf, Option.toList_some, Option.toList_none, List.nil_append, List.cons_append]
    rw [b25_18]
    by_cases e3 : z < N 0 ∨ N 99 < z
    · refine ⟨μ, ?_, ?_⟩
      · rw [pN_neg (fun g => e3.elim g.1 g.2), if_pos (by rfl), b25_21]
        simp only [if_pos e3]; rfl
      · simp only [if_pos e3]; exact XT.refl hb h
    · obtain ⟨μ1, c1, T1⟩ := t_begin (d := d) hb h
      have h1 := T1.2.2
      obtain ⟨j12, j0, -⟩ := h1.s0
      obtain ⟨hg1, hd1⟩ := h1.gg hi4
      have hd1 : dG μ1 (xA (gA X p.1)) = σ.1.1 p.1 := hd1
      obtain ⟨μ2, c2, F2, G2, d2⟩ := d_setNote (d := d + 2) (p := some p.2.1) (c := p.2.2) (t := z) hg1 (one_small (by omega)) hc
      have c3 := d_noteAt (d := d + 2) (p := some p.2.1) (c := p.2.2) hg1 (one_small (by omega)) hc
      have T2 := x_setG T1.2.1 h1 hi4 F2 G2 d2
      rw [hd1] at T2 c3
      simp only [pl_some] at c2 c3
      rw [pN_pos ⟨fun g => e3 (Or.inl g), fun g => e3 (Or.inr g)⟩]
      simp only [if_neg e3]
      refine ⟨μ2, ?_, T1.trans T2⟩
      simp only [N_lit, n10, if_false, gI12, gR12, pI12, pR12, rv12, gI3, gR3, pI3, pR3, rv3, aI_eq, aB_eq, aR_eq, sI_eq, sB_eq, sR_eq, Option.bind_some, Option.bind_none, if_true, if_false, true_or, or_true, false_or, or_false, true_and, and_true, false_and, and_false, decide_eq_true_eq, decide_true, decide_false, eq_self, not_true_eq_false, not_false_eq_true, jfit0, N_lit, N_add, N_mul, NEG_eq, pl_none, pl_some, rf_some, rf_none, jun_ref, jun_null, ir_ref, ir_null, jr_rf, jun_rf, Option.toList_some, Option.toList_none, List.nil_append, List.cons_append, k12, c1, b25_28, j12, j0, h1.k3, t_gridAt h1 hi4]
      rw [b25_36 (hs0 := ir_ref)]
      simp only [gI6, gR6, pI6, pR6, rv6, aI_eq, aB_eq, aR_eq, sI_eq, sB_eq, sR_eq, Option.bind_some, Option.bind_none, if_true, if_false, true_or, or_true, false_or, or_false, true_and, and_true, false_and, and_false, decide_eq_true_eq, decide_true, decide_false, eq_self, not_true_eq_false, not_false_eq_true, jfit0, N_lit, N_add, N_mul, NEG_eq, pl_none, pl_some, rf_some, rf_none, jun_ref, jun_null, ir_ref, ir_null, jr_rf, jun_rf, Option.toList_some, Option.toList_none, List.nil_append, List.cons_append, h1.k6 hi4, c3]
      rw [b25_41]
      simp only [gI12, gR12, pI12, pR12, rv12, gI3, gR3, pI3, pR3, rv3, aI_eq, aB_eq, aR_eq, sI_eq, sB_eq, sR_eq, Option.bind_some, Option.bind_none, if_true, if_false, true_or, or_true, false_or, or_false, true_and, and_true, false_and, and_false, decide_eq_true_eq, decide_true, decide_false, eq_self, not_true_eq_false, not_false_eq_true, jfit0, N_lit, N_add, N_mul, NEG_eq, pl_none, pl_some, rf_some, rf_none, jun_ref, jun_null, ir_ref, ir_null, jr_rf, jun_rf, Option.toList_some, Option.toList_none, List.nil_append, List.cons_append, j12, j0, h1.k3, t_gridAt h1 hi4]
      rw [b25_51 (hs0 := ir_ref)]
      simp only [gI6, gR6, pI6, pR6, rv6, aI_eq, aB_eq, aR_eq, sI_eq, sB_eq, sR_eq, Option.bind_some, Option.bind_none, if_true, if_false, true_or, or_true, false_or, or_false, true_and, and_true, false_and, and_false, decide_eq_true_eq, decide_true, decide_false, eq_self, not_true_eq_false, not_false_eq_true, jfit0, N_lit, N_add, N_mul, NEG_eq, pl_none, pl_some, rf_some, rf_none, jun_ref, jun_null, ir_ref, ir_null, jr_rf, jun_rf, Option.toList_some, Option.toList_none, List.nil_append, List.cons_append, h1.k6 hi4, c2, b25_58]
theorem t_like (hb : BI μ X) (h : XR μ X σ) : OP (d + 4) 27 [.ref X, .int g, .int x] μ X (o_like σ g x) 0 0 := by
  obtain ⟨k12, r0, -⟩ := h.s0
  unfold OP
  rw [jC_run (by decide)]
  show ∃ μ', jR (d + 4) 27 0 [.ref X, .int g, .int x] [] μ = _ ∧ _
  rw [b27_0]
  simp only [x_isInput, aI_eq, aB_eq, aR_eq, sI_eq, sB_eq, sR_eq, Option.bind_some, Option.bind_none, if_true, if_false, true_or, or_true, false_or, or_false, true_and, and_true, false_and, and_false, decide_eq_true_eq, decide_true, decide_false, eq_self, not_true_eq_false, not_false_eq_true, jfit0, N_lit, N_add, N_mul, NEG_eq, pl_none, pl_some, rf_some, rf_none, jun_ref, jun_null, ir_ref, ir_null, jr_rf, jun_rf, Option.toList_some, Option.toList_none, List.nil_append, List.cons_append]
  rw [b27_4]
  unfold o_like
  cases e : ix 3 g with
  | none =>
    refine ⟨μ, ?_, XT.refl hb h⟩
    simp only [Option.isSome_none, bN_false, N_lit, if_true, b27_19]
  | some i =>
    obtain ⟨rfl, hi⟩ := ix_some (by decide) e
    have hi4 : i < 4 := by omega
    simp only [Option.isSome_some, bN_true, N_lit, n10, if_false, x_isGrid, aI_eq, aB_eq, aR_eq, sI_eq, sB_eq, sR_eq, Option.bind_some, Option.bind_none, if_true, if_false, true_or, or_true, false_or, or_false, true_and, and_true, false_and, and_false, decide_eq_true_eq, decide_true, decide_false, eq_self, not_true_eq_false, not_false_eq_true, jfit0, N_lit, N_add, N_mul, NEG_eq, pl_none, pl_some, rf_some, rf_none, jun_ref, jun_null, ir_ref, ir_null, jr_rf, jun_rf, Option.toList_some, Option.toList_none, List.nil_append, List.cons_append]
    rw [b27_11]
    cases e2 : ix 4 x with
    | none =>
      refine ⟨μ, ?_, XT.refl hb h⟩
      simp only [Option.isSome_none, bN_false, N_lit, if_true, b27_19]
    | some o =>
      obtain ⟨rfl, ho⟩ := ix_some (by decide) e2
      simp only [Option.isSome_some, bN_true, N_lit, n10, if_false, N_inj (show i < 2147483648 by omega) (show o < 2147483648 by omega)]
      by_cases e3 : i = o
      · simp only [if_pos e3]
        refine ⟨μ, ?_, XT.refl hb h⟩
        rw [b27_19]; rfl
      · simp only [if_neg e3]
        obtain ⟨μ1, c1, T1⟩ := t_begin (d := d) hb h
        have h1 := T1.2.2
        obtain ⟨j12, j0, -⟩ := h1.s0
        obtain ⟨hg1, hd1⟩ := h1.gg hi4
        obtain ⟨ho1, hdo⟩ := h1.gg ho
        have hdo : dG μ1 (xA (gA X o)) = σ.1.1 o := hdo
        obtain ⟨μ2, c2, F2, G2, d2⟩ := d_become (d := d + 2) (g := gA X i) hg1.2.1 hg1.1 ho1 (by unfold gA; omega)
        have T2 := x_setG T1.2.1 h1 hi4 F2 G2 d2
        rw [hdo] at T2
        have h2 := T2.2.2
        obtain ⟨l12, l0, -⟩ := h2.s0
        have n2 := h2.nn hi4
        have e6 : ((stg (chg σ) i (σ.1.1 o)).1.1 i) = σ.1.1 o := stg_at
        rw [e6] at n2
        refine ⟨μ2, ?_, T1.trans T2⟩
        simp only [gI12, gR12, pI12, pR12, rv12, gI3, gR3, pI3, pR3, rv3, aI_eq, aB_eq, aR_eq, sI_eq, sB_eq, sR_eq, Option.bind_some, Option.bind_none, if_true, if_false, true_or, or_true, false_or, or_false, true_and, and_true, false_and, and_false, decide_eq_true_eq, decide_true, decide_false, eq_self, not_true_eq_false, not_false_eq_true, jfit0, N_lit, N_add, N_mul, NEG_eq, pl_none, pl_some, rf_some, rf_none, jun_ref, jun_null, ir_ref, ir_null, jr_rf, jun_rf, Option.toList_some, Option.toList_none, List.nil_append, List.cons_append, k12, c1, b27_26, j12, j0, h1.k3, t_gridAt h1 hi4]
        rw [b27_34 (hs0 := ir_ref)]
        simp only [gI12, gR12, pI12, pR12, rv12, gI3, gR3, pI3, pR3, rv3, aI_eq, aB_eq, aR_eq, sI_eq, sB_eq, sR_eq, Option.bind_some, Option.bind_none, if_true, if_false, true_or, or_true, false_or, or_false, true_and, and_true, false_and, and_false, decide_eq_true_eq, decide_true, decide_false, eq_self, not_true_eq_false, not_false_eq_true, jfit0, N_lit, N_add, N_mul, NEG_eq, pl_none, pl_some, rf_some, rf_none, jun_ref, jun_null, ir_ref, ir_null, jr_rf, jun_rf, Option.toList_some, Option.toList_none, List.nil_append, List.cons_append, j12, j0, h1.k3, t_gridAt h1 ho]
        rw [b27_42 (hs1 := ir_ref) (hs0 := ir_ref)]
        simp only [gI6, gR6, pI6, pR6, rv6, aI_eq, aB_eq, aR_eq, sI_eq, sB_eq, sR_eq, Option.bind_some, Option.bind_none, if_true, if_false, true_or, or_true, false_or, or_false, true_and, and_true, false_and, and_false, decide_eq_true_eq, decide_true, decide_false, eq_self, not_true_eq_false, not_false_eq_true, jfit0, N_lit, N_add, N_mul, NEG_eq, pl_none, pl_some, rf_some, rf_none, jun_ref, jun_null, ir_ref, ir_null, jr_rf, jun_rf, Option.toList_some, Option.toList_none, List.nil_append, List.cons_append, h1.k6 hi4, c2]
        rw [b27_45]
        simp only [gI12, gR12, pI12, pR12, rv12, gI3, gR3, pI3, pR3, rv3, aI_eq, aB_eq, aR_eq, sI_eq, sB_eq, sR_eq, Option.bind_some, Option.bind_none, if_true, if_false, true_or, or_true, false_or, or_false, true_and, and_true, false_and, and_false, decide_eq_true_eq, decide_true, decide_false, eq_self, not_true_eq_false, not_false_eq_true, jfit0, N_lit, N_add, N_mul, NEG_eq, pl_none, pl_some, rf_some, rf_none, jun_ref, jun_null, ir_ref, ir_null, jr_rf, jun_rf, Option.toList_some, Option.toList_none, List.nil_append, List.cons_append, l12, l0, h2.k3, t_gridAt h2 hi4]
        rw [b27_53 (hs0 := ir_ref)]
        simp only [gI6, gR6, pI6, pR6, rv6, aI_eq, aB_eq, aR_eq, sI_eq, sB_eq, sR_eq, Option.bind_some, Option.bind_none, if_true, if_false, true_or, or_true, false_or, or_false, true_and, and_true, false_and, and_false, decide_eq_true_eq, decide_true, decide_false, eq_self, not_true_eq_false, not_false_eq_true, jfit0, N_lit, N_add, N_mul, NEG_eq, pl_none, pl_some, rf_some, rf_none, jun_ref, jun_null, ir_ref, ir_null, jr_rf, jun_rf, Option.toList_some, Option.toList_none, List.nil_append, List.cons_append, h2.k6 hi4, n2]
theorem XR.ru (h : XR μ X σ) : RV μ (X + 26) ∧ (∀ c, c < 3 → rL μ (X + 26) c = σ.1.2.1 c) ∧ jrv μ (X + 1) 4 = some (X + 26) := ⟨h.bb.2.2.2.1.1, h.bb.2.2.2.1.2, h.bb.2.1.2.1.2.2.2.2.1⟩
theorem t_rule (hb : BI μ X) (h : XR μ X σ) : OP (d + 1) 31 [.ref X, .int x, .int y, .int z] μ X (o_rule σ x y z) 0 0 := by
  obtain ⟨k12, r0, -⟩ := h.s0
  unfold OP
  rw [jC_run (by decide)]
  show ∃ μ', jR (d + 1) 31 0 [.ref X, .int x, .int y, .int z, .retAddr 0] [] μ = _ ∧ _
  rw [b31_0]
  simp only [x_isColumn, aI_eq, aB_eq, aR_eq, sI_eq, sB_eq, sR_eq, Option.bind_some, Option.bind_none, if_true, if_false, true_or, or_true, false_or, or_false, true_and, and_true, false_and, and_false, decide_eq_true_eq, decide_true, decide_false, eq_self, not_true_eq_false, not_false_eq_true, jfit0, N_lit, N_add, N_mul, NEG_eq, pl_none, pl_some, rf_some, rf_none, jun_ref, jun_null, ir_ref, ir_null, jr_rf, jun_rf, Option.toList_some, Option.toList_none, List.nil_append, List.cons_append]
  rw [b31_4]
  unfold o_rule
  cases e : ix 3 x with
  | none =>
    refine ⟨μ, ?_, XT.refl hb h⟩
    simp only [Option.isSome_none, bN_false, N_lit, if_true, b31_24]
  | some c =>
    obtain ⟨rfl, hc⟩ := ix_some (by decide) e
    simp only [Option.isSome_some, bN_true, N_lit, n10, if_false, x_isRuleKind, aI_eq, aB_eq, aR_eq, sI_eq, sB_eq, sR_eq, Option.bind_some, Option.bind_none, if_true, if_false, true_or, or_true, false_or, or_false, true_and, and_true, false_and, and_false, decide_eq_true_eq, decide_true, decide_false, eq_self, not_true_eq_false, not_false_eq_true, jfit0, N_lit, N_add, N_mul, NEG_eq, pl_none, pl_some, rf_some, rf_none, jun_ref, jun_null, ir_ref, ir_null, jr_rf, jun_rf, Option.toList_some, Option.toList_none, List.nil_append, List.cons_append]
    rw [b31_11]
    cases e2 : ix 6 y with
    | none =>
      refine ⟨μ, ?_, XT.refl hb h⟩
      simp only [Option.isSome_none, bN_false, N_lit, if_true, b31_24]
    | some k =>
      obtain ⟨rfl, hk⟩ := ix_some (by decide) e2
      simp only [Option.isSome_some, bN_true, N_lit, n10, if_false, x_isIn, aI_eq, aB_eq, aR_eq, sI_eq, sB_eq, sR_eq, Option.bind_some, Option.bind_none, if_true, if_false, true_or, or_true, false_or, or_false, true_and, and_true, false_and, and_false, decide_eq_true_eq, decide_true, decide_false, eq_self, not_true_eq_false, not_false_eq_true, jfit0, N_lit, N_add, N_mul, NEG_eq, pl_none, pl_some, rf_some, rf_none, jun_ref, jun_null, ir_ref, ir_null, jr_rf, jun_rf, Option.toList_some, Option.toList_none, List.nil_append, List.cons_append]
      rw [b31_21]
      cases e3 : ix 100 z with
      | none =>
        refine ⟨μ, ?_, XT.refl hb h⟩
        have := ix_none (by decide) e3
        rw [pN_neg (fun g => ?_), if_pos (by rfl), b31_24]; rfl
        rcases this with h1 | h1
        · exact g.1 h1
        · by_cases h0 : z < N 0
          · exact g.1 h0
          · obtain ⟨b, hb, rfl⟩ := N_of h0
            rw [N_lt hb (by decide)] at h1
            have h2 := g.2
            rw [N_lt (by decide) hb] at h2
            omega
      | some f =>
        obtain ⟨rfl, hf⟩ := ix_some (by decide) e3
        obtain ⟨hr, hL, hr4⟩ := h.ru
        obtain ⟨⟨q8, q1, l1, q2, l2⟩, ⟨p0, p1⟩, pv⟩ := hr
        have hru := h.ru.1
        obtain ⟨v1, v2, v3, v4⟩ := hru.at hc
        rw [hL c hc] at v1 v2 v3 v4
        have F : Fx (fun a => X + 27 ≤ a ∧ a < X + 29) (fun _ _ => False) μ (jsetI (jsetI μ (X + 26 + 1) c (N k)) (X + 26 + 2) c (N f)) := by
          refine Fx.setI (Fx.setI Fx.refl ?_) ?_
          · show X + 27 ≤ X + 26 + 1 ∧ _; omega
          · show X + 27 ≤ X + 26 + 2 ∧ _; omega
        have g1 := ent_get (μ := μ) q1 l1 hc (by decide)
        have g2 := ent_get (μ := μ) q2 l2 hc (by decide)
        have s1 := ent_set (μ := μ) (v := N k) q1 l1 hc (by decide)
        have s2 := ent_set (μ := jsetI μ (X + 26 + 1) c (N k)) (v := N f) q2 l2 hc (by decide)
        refine ⟨jsetI (jsetI μ (X + 26 + 1) c (N k)) (X + 26 + 2) c (N f), ?_, ?_⟩
        · rw [pN_pos ⟨by rw [N_lt (by omega) (by decide)]; omega, by rw [N_lt (by decide) (by omega)]; omega⟩]
          have k3 := h.k3
          simp only [N_lit, n10, if_false, gI12, gR12, pI12, pR12, rv12, gI3, gR3, pI3, pR3, rv3, gI8, gR8, pI8, pR8, rv8, aI_eq, aB_eq, aR_eq, sI_eq, sB_eq, sR_eq, Option.bind_some, Option.bind_none, if_true, if_false, true_or, or_true, false_or, or_false, true_and, and_true, false_and, and_false, decide_eq_true_eq, decide_true, decide_false, eq_self, not_true_eq_false, not_false_eq_true, jfit0, N_lit, N_add, N_mul, NEG_eq, pl_none, pl_some, rf_some, rf_none, jun_ref, jun_null, ir_ref, ir_null, jr_rf, jun_rf, Option.toList_some, Option.toList_none, List.nil_append, List.cons_append, jk_setI, rv_setI, k12, r0, k3, hr4, q8, p0, p1, g1, g2, s1, s2, v1, v2]
        · refine XR.one (k := 1) hb h (by decide) (Fx.fa F hb.1) (fun a g => ?_) (fun a j g => g.elim) ?_ (fun i hi hne h => by rcases (show i = 0 ∨ i = 1 ∨ i = 2 ∨ i = 3 ∨ i = 4 ∨ i = 5 ∨ i = 6 ∨ i = 7 ∨ i = 8 ∨ i = 9 ∨ i = 10 ∨ i = 11 ∨ i = 12 by omega) with rfl | rfl | rfl | rfl | rfl | rfl | rfl | rfl | rfl | rfl | rfl | rfl | rfl <;> first | exact absurd rfl hne | exact h)
          · have g : X + 27 ≤ a ∧ a < X + 29 := g
            show X + 1 ≤ a ∧ a < X + 138; omega
          · obtain ⟨h0, h1, h2, h3, h4, nc, h5, h6, h7, h8, h9⟩ := h.bb
            have GO : ∀ g, GV μ (X + 766) g → X + 1 ≤ g → g + 6 ≤ X + 27 ∨ X + 29 ≤ g → GV (jsetI (jsetI μ (X + 26 + 1) c (N k)) (X + 26 + 2) c (N f)) (X + 766) g ∧ dG (jsetI (jsetI μ (X + 26 + 1) c (N k)) (X + 26 + 2) c (N f)) (xA g) = dG μ (xA g) := fun g hg _ hd => hg.outx F (fun a ha => by
              have ha : X + 27 ≤ a ∧ a < X + 29 := ha
              omega) (fun _ _ g => g.elim)
            refine ⟨h0, h1.out F (fun _ _ g => g.elim), fun g hg => ?_, ⟨⟨⟨q8, q1, l1, q2, l2⟩, ⟨p0, p1⟩, fun c' hc' => ?_⟩, fun c' hc' => ?_⟩, fun i hi => (GO _ (h4 i hi) (by unfold bG; omega) (by unfold bG; omega)).1, nc, h5, ?_, ?_, h8, fun j hh hjh g hg => ?_⟩
            · obtain ⟨a1, a2⟩ := GO _ (h2 g hg).1 (by omega) (by omega)
              exact ⟨a1, a2.trans (h2 g hg).2⟩
            · by_cases ec : c' = c
              · subst ec
                exact ⟨k, f, hk, hf, by simp [iv_setI], by simp [iv_setI]⟩
              · obtain ⟨k', f', a1, a2, a3, a4⟩ := pv c' hc'
                exact ⟨k', f', a1, a2, by simp [iv_setI, ec]; exact a3, by simp [iv_setI, ec]; exact a4⟩
            · show rL _ (X + 26) c' = updf σ.1.2.1 c (k, f) c'
              unfold updf
              by_cases ec : c' = c
              · subst ec
                rw [if_pos rfl]
                unfold rL
                have a1 : jiv (jsetI (jsetI μ (X + 26 + 1) c' (N k)) (X + 26 + 2) c' (N f)) (X + 26 + 1) c' = N k := by simp [iv_setI]
                have a2 : jiv (jsetI (jsetI μ (X + 26 + 1) c' (N k)) (X + 26 + 2) c' (N f)) (X + 26 + 2) c' = N f := by simp [iv_setI]
                rw [a1, a2, N_nat (by omega), N_nat (by omega)]
              · rw [if_neg ec]
                refine Eq.trans ?_ (hL c' hc')
                unfold rL
                have a1 : jiv (jsetI (jsetI μ (X + 26 + 1) c (N k)) (X + 26 + 2) c (N f)) (X + 26 + 1) c' = jiv μ (X + 26 + 1) c' := by simp [iv_setI, ec]
                have a2 : jiv (jsetI (jsetI μ (X + 26 + 1) c (N k)) (X + 26 + 2) c (N f)) (X + 26 + 2) c' = jiv μ (X + 26 + 2) c' := by simp [iv_setI, ec]
                rw [a1, a2]
            · rw [F.iv (by show ¬ (X + 27 ≤ X + 1 ∧ _); omega)]; exact h6
            · rw [F.iv (by show ¬ (X + 27 ≤ X + 1 ∧ _); omega)]; exact h7
            · have hi : ((nc + 6 - 1 - j) % 6) * 3 + g < 18 := by
                have := Nat.mod_lt (nc + 6 - 1 - j) (show 0 < 6 by decide)
                omega
              rw [(GO _ (h4 _ hi) (by unfold bG; omega) (by unfold bG; omega)).2]
              exact h9 j hh hjh g hg
theorem XR.ja (hb : BI μ X) : ∃ B, B ≤ X ∧ KX μ B ∧ JA μ B := hb.2.1
theorem t_taken (hb : BI μ X) (h : XR μ X σ) : OP (d + 2) 34 [.ref X, .int x, .int y] μ X (o_taken σ x y) 0 0 := by
  obtain ⟨k12, r0, -⟩ := h.s0
  unfold OP
  rw [jC_run (by decide)]
  show ∃ μ', jR (d + 2) 34 0 [.ref X, .int x, .int y] [] μ = _ ∧ _
  rw [b34_0]
  simp only [x_isColumn, aI_eq, aB_eq, aR_eq, sI_eq, sB_eq, sR_eq, Option.bind_some, Option.bind_none, if_true, if_false, true_or, or_true, false_or, or_false, true_and, and_true, false_and, and_false, decide_eq_true_eq, decide_true, decide_false, eq_self, not_true_eq_false, not_false_eq_true, jfit0, N_lit, N_add, N_mul, NEG_eq, pl_none, pl_some, rf_some, rf_none, jun_ref, jun_null, ir_ref, ir_null, jr_rf, jun_rf, Option.toList_some, Option.toList_none, List.nil_append, List.cons_append]
  rw [b34_4]
  unfold o_taken
  cases e : ix 3 x with
  | none =>
    refine ⟨μ, ?_, XT.refl hb h⟩
    simp only [Option.isSome_none, bN_false, N_lit, if_true, b34_14]
  | some c =>
    obtain ⟨rfl, hc⟩ := ix_some (by decide) e
    simp only [Option.isSome_some, bN_true, N_lit, n10, if_false, x_isRuleKind, aI_eq, aB_eq, aR_eq, sI_eq, sB_eq, sR_eq, Option.bind_some, Option.bind_none, if_true, if_false, true_or, or_true, false_or, or_false, true_and, and_true, false_and, and_false, decide_eq_true_eq, decide_true, decide_false, eq_self, not_true_eq_false, not_false_eq_true, jfit0, N_lit, N_add, N_mul, NEG_eq, pl_none, pl_some, rf_some, rf_none, jun_ref, jun_null, ir_ref, ir_null, jr_rf, jun_rf, Option.toList_some, Option.toList_none, List.nil_append, List.cons_append]
    rw [b34_11]
    cases e2 : ix 6 y with
    | none =>
      refine ⟨μ, ?_, XT.refl hb h⟩
      simp only [Option.isSome_none, bN_false, N_lit, if_true, b34_14]
    | some k =>
      obtain ⟨rfl, hk⟩ := ix_some (by decide) e2
      obtain ⟨hr, hL, hr4⟩ := h.ru
      obtain ⟨B, hB, -, hA⟩ := hb.2.1
      have k3 := h.k3
      have c1 := d_isOf (d := d) hA hr hc hk
      rw [hL c hc] at c1
      obtain ⟨v1, v2, v3, v4⟩ := hr.at hc
      rw [hL c hc] at v2
      have g2 := ent_get (μ := μ) hr.1.2.2.2.1 hr.1.2.2.2.2 hc (by decide)
      refine ⟨μ, ?_, XT.refl hb h⟩
      simp only [Option.isSome_some, bN_true, N_lit, n10, if_false, gI12, gR12, pI12, pR12, rv12, gI3, gR3, pI3, pR3, rv3, gI8, gR8, pI8, pR8, rv8, aI_eq, aB_eq, aR_eq, sI_eq, sB_eq, sR_eq, Option.bind_some, Option.bind_none, if_true, if_false, true_or, or_true, false_or, or_false, true_and, and_true, false_and, and_false, decide_eq_true_eq, decide_true, decide_false, eq_self, not_true_eq_false, not_false_eq_true, jfit0, N_lit, N_add, N_mul, NEG_eq, pl_none, pl_some, rf_some, rf_none, jun_ref, jun_null, ir_ref, ir_null, jr_rf, jun_rf, Option.toList_some, Option.toList_none, List.nil_append, List.cons_append, k12, r0, k3, hr4, hr.1.1, c1]
      rw [b34_29]
      by_cases e3 : isOfN (σ.1.2.1 c).1 k
      · rw [pN_pos e3, if_pos (isOfB_iff.mpr e3)]
        simp only [N_lit, n10, if_false, gI12, gR12, pI12, pR12, rv12, gI3, gR3, pI3, pR3, rv3, gI8, gR8, pI8, pR8, rv8, aI_eq, aB_eq, aR_eq, sI_eq, sB_eq, sR_eq, Option.bind_some, Option.bind_none, if_true, if_false, true_or, or_true, false_or, or_false, true_and, and_true, false_and, and_false, decide_eq_true_eq, decide_true, decide_false, eq_self, not_true_eq_false, not_false_eq_true, jfit0, N_lit, N_add, N_mul, NEG_eq, pl_none, pl_some, rf_some, rf_none, jun_ref, jun_null, ir_ref, ir_null, jr_rf, jun_rf, Option.toList_some, Option.toList_none, List.nil_append, List.cons_append, k12, r0, k3, hr4, hr.1.1, hr.2.1.2, g2, v2, b34_49]
      · rw [pN_neg e3, if_neg (fun g => e3 (isOfB_iff.mp g))]
        simp only [N_lit, if_true, b34_49]
end TOP
