/-! THE METHODS OF Grid: rows that change places, come, go, are as another grid's -/
section GRID
variable {μ μ' : jM} {g h d : Nat}
theorem FG.refl : FG g μ μ := Fx.refl
theorem FG.trans {μ'' : jM} (a : FG g μ μ') (b : FG g μ' μ'') : FG g μ μ'' := Fx.trans a b
theorem fg_swc {x y : Nat} : FG g μ (swc μ (xA g) x y) :=
  (((Fx.refl.rowI (by show g ≤ g + 2 ∧ g + 2 < g + 6; omega)).rowI (by show g ≤ g + 3 ∧ g + 3 < g + 6; omega)).rowI (by show g ≤ g + 5 ∧ g + 5 < g + 6; omega)).rowR (fun _ => rfl)
theorem gs_swc {x y : Nat} (hs : Gs μ g) : Gs (swc μ (xA g) x y) g := by
  refine fg_swc.gs (fun j b hb => ?_) hs
  simp only [swc, xA, ty_setI, ty_setR, ty_rowI, ty_rowR, jk_setI, jk_setR, jk_rowI, jk_rowR, jl_setI, jl_setR, jl_rowI, jl_rowR, sz_setI, sz_setR, sz_rowI, sz_rowR, ext_setI, ext_setR, iv_setI, iv_setR, iv_rowI, iv_rowR, rv_setI, rv_setR, rv_rowI, rv_rowR, iv_setIn, iv_rowIn, rv_setRn, rv_rowRn, iv_rowIe, rv_rowRe, if_true] at hb
  unfold swf at hb
  split at hb
  · exact hs.2.2 _ b hb
  · split at hb
    · exact hs.2.2 _ b hb
    · exact hs.2.2 _ b hb
theorem fg_swr {i j : Nat} : FG g μ (swr μ (xA g) i j) := by
  unfold swr
  exact (((Fx.refl.rowI (by show g ≤ g + 1 ∧ g + 1 < g + 6; omega)).trans fg_swc).trans fg_swc).trans fg_swc
theorem gs_rowI {a : Nat} {f : Nat → Int32} (hs : Gs μ g) : Gs (jrowI μ a f) g := hs
theorem gs_setI {a k : Nat} {v : Int32} (hs : Gs μ g) : Gs (jsetI μ a k v) g := hs
theorem gs_swr {i j : Nat} (hs : Gs μ g) : Gs (swr μ (xA g) i j) g := by
  unfold swr
  exact gs_swc (gs_swc (gs_swc (gs_rowI hs)))
theorem gn_swr {i j : Nat} (hn : Gn μ g) (hi : i < vN μ (xA g)) (hj : j < vN μ (xA g)) : Gn (swr μ (xA g) i j) g := by
  unfold Gn
  rw [(rG_swr (xA_ok g) hi hj).2]
  refine ⟨?_, hn.2⟩
  rw [← hn.1]
  simp only [swr, swc, xA, ty_setI, ty_setR, ty_rowI, ty_rowR, jk_setI, jk_setR, jk_rowI, jk_rowR, jl_setI, jl_setR, jl_rowI, jl_rowR, sz_setI, sz_setR, sz_rowI, sz_rowR, ext_setI, ext_setR, iv_setI, iv_setR, iv_rowI, iv_rowR, rv_setI, rv_setR, rv_rowI, rv_rowR, iv_setIn, iv_rowIn, rv_setRn, rv_rowRn, iv_rowIe, rv_rowRe, show ¬ g = g + 1 by omega, show ¬ g = g + 2 by omega, show ¬ g = g + 3 by omega, show ¬ g = g + 5 by omega, if_false]
theorem swapRows_step {i j c : Nat} {u4 u5 u6 : Value} (hs : Gs μ g) (hi : i < 8) (hj : j < 8) (hc : c < 3) : jR (d + 1) 96 36 [.ref g, .int (N i), .int (N j), .int (N c), u4, u5, u6] [] μ = jR (d + 1) 96 36 [.ref g, .int (N i), .int (N j), .int (N (c + 1)), .int (N (i * 3 + c)), .int (N (j * 3 + c)), va_rf (jrv μ (g + 4) (i * 3 + c))] [] (swc μ (xA g) (i * 3 + c) (j * 3 + c)) := by
  have hx : i * 3 + c < 24 := by omega
  have hy : j * 3 + c < 24 := by omega
  generalize ex : i * 3 + c = x at *
  generalize ey : j * 3 + c = y at *
  have b0 : c < 2147483648 := by omega
  have b1 : (3 : Nat) < 2147483648 := by decide
  have b2 : x < 2147483648 := by omega
  have b3 : y < 2147483648 := by omega
  obtain ⟨⟨k0, k1, l1, k2, l2, k3, l3, k4, l4, k5, l5⟩, ⟨r1, r2, r3, r4, r5⟩, ht⟩ := hs
  have s2 := fun (m : jM) (h1 : jk m = jk μ) (h2 : jl m = jl μ) => x_swap (d := d) (μ := m) (a := g + 2) (i := x) (j := y) (by rw [h1]; exact k2) (by rw [h2, l2]; exact hx) (by rw [h2, l2]; exact hy) (by rw [h2, l2]; decide)
  have s3 := fun (m : jM) (h1 : jk m = jk μ) (h2 : jl m = jl μ) => x_swap (d := d) (μ := m) (a := g + 3) (i := x) (j := y) (by rw [h1]; exact k3) (by rw [h2, l3]; exact hx) (by rw [h2, l3]; exact hy) (by rw [h2, l3]; decide)
  have s5 := fun (m : jM) (h1 : jk m = jk μ) (h2 : jl m = jl μ) => x_swap (d := d) (μ := m) (a := g + 5) (i := x) (j := y) (by rw [h1]; exact k5) (by rw [h2, l5]; exact hx) (by rw [h2, l5]; exact hy) (by rw [h2, l5]; decide)
  rw [b96_36]
  simp only [gI6, gR6, pI6, pR6, rv6, aI_eq, aB_eq, aR_eq, sI_eq, sB_eq, sR_eq, Option.bind_some, Option.bind_none, if_true, if_false, true_or, or_true, false_or, or_false, true_and, and_true, false_and, and_false, decide_eq_true_eq, decide_true, decide_false, eq_self, not_true_eq_false, not_false_eq_true, jfit0, N_lit, N_add, N_mul, NEG_eq, pl_none, pl_some, rf_some, rf_none, jun_ref, jun_null, ir_ref, ir_null, jr_rf, jun_rf, Option.toList_some, Option.toList_none, List.nil_append, List.cons_append, k0, r2, N_lt b0 b1, hc, ex, ey, s2 μ rfl rfl]
  rw [b96_66]
  rw [show (jgR (jrowI μ (g + 2) (swf (jiv μ (g + 2)) x y)) 6 3 (.ref g)) = some (.ref (g + 3)) by simp only [gR6, ty_setI, ty_setR, ty_rowI, ty_rowR, jk_setI, jk_setR, jk_rowI, jk_rowR, jl_setI, jl_setR, jl_rowI, jl_rowR, sz_setI, sz_setR, sz_rowI, sz_rowR, ext_setI, ext_setR, iv_setI, iv_setR, iv_rowI, iv_rowR, rv_setI, rv_setR, rv_rowI, rv_rowR, iv_setIn, iv_rowIn, rv_setRn, rv_rowRn, iv_rowIe, rv_rowRe, k0, r3, if_true, rf_some]]
  simp only [Option.bind_some]
  rw [s3 (jrowI μ (g + 2) (swf (jiv μ (g + 2)) x y)) rfl rfl]
  simp only [aI_eq, aB_eq, aR_eq, sI_eq, sB_eq, sR_eq, Option.bind_some, Option.bind_none, if_true, if_false, true_or, or_true, false_or, or_false, true_and, and_true, false_and, and_false, decide_eq_true_eq, decide_true, decide_false, eq_self, not_true_eq_false, not_false_eq_true, jfit0, N_lit, N_add, N_mul, NEG_eq, pl_none, pl_some, rf_some, rf_none, jun_ref, jun_null, ir_ref, ir_null, jr_rf, jun_rf, Option.toList_some, Option.toList_none, List.nil_append, List.cons_append, ty_setI, ty_setR, ty_rowI, ty_rowR, jk_setI, jk_setR, jk_rowI, jk_rowR, jl_setI, jl_setR, jl_rowI, jl_rowR, sz_setI, sz_setR, sz_rowI, sz_rowR, ext_setI, ext_setR, iv_setI, iv_setR, iv_rowI, iv_rowR, rv_setI, rv_setR, rv_rowI, rv_rowR, iv_setIn, iv_rowIn, rv_setRn, rv_rowRn, iv_rowIe, rv_rowRe, show ¬ g + 3 = g + 2 by omega]
  rw [b96_77]
  rw [show (jgR (jrowI (jrowI μ (g + 2) (swf (jiv μ (g + 2)) x y)) (g + 3) (swf (jiv μ (g + 3)) x y)) 6 5 (.ref g)) = some (.ref (g + 5)) by simp only [gR6, ty_setI, ty_setR, ty_rowI, ty_rowR, jk_setI, jk_setR, jk_rowI, jk_rowR, jl_setI, jl_setR, jl_rowI, jl_rowR, sz_setI, sz_setR, sz_rowI, sz_rowR, ext_setI, ext_setR, iv_setI, iv_setR, iv_rowI, iv_rowR, rv_setI, rv_setR, rv_rowI, rv_rowR, iv_setIn, iv_rowIn, rv_setRn, rv_rowRn, iv_rowIe, rv_rowRe, k0, r5, if_true, rf_some]]
  simp only [Option.bind_some]
  rw [s5 (jrowI (jrowI μ (g + 2) (swf (jiv μ (g + 2)) x y)) (g + 3) (swf (jiv μ (g + 3)) x y)) rfl rfl]
  simp only [aI_eq, aB_eq, aR_eq, sI_eq, sB_eq, sR_eq, Option.bind_some, Option.bind_none, if_true, if_false, true_or, or_true, false_or, or_false, true_and, and_true, false_and, and_false, decide_eq_true_eq, decide_true, decide_false, eq_self, not_true_eq_false, not_false_eq_true, jfit0, N_lit, N_add, N_mul, NEG_eq, pl_none, pl_some, rf_some, rf_none, jun_ref, jun_null, ir_ref, ir_null, jr_rf, jun_rf, Option.toList_some, Option.toList_none, List.nil_append, List.cons_append, ty_setI, ty_setR, ty_rowI, ty_rowR, jk_setI, jk_setR, jk_rowI, jk_rowR, jl_setI, jl_setR, jl_rowI, jl_rowR, sz_setI, sz_setR, sz_rowI, sz_rowR, ext_setI, ext_setR, iv_setI, iv_setR, iv_rowI, iv_rowR, rv_setI, rv_setR, rv_rowI, rv_rowR, iv_setIn, iv_rowIn, rv_setRn, rv_rowRn, iv_rowIe, rv_rowRe, show ¬ g + 5 = g + 2 by omega, show ¬ g + 5 = g + 3 by omega]
  rw [b96_88]
  simp only [gI6, gR6, pI6, pR6, rv6, aI_eq, aB_eq, aR_eq, sI_eq, sB_eq, sR_eq, Option.bind_some, Option.bind_none, if_true, if_false, true_or, or_true, false_or, or_false, true_and, and_true, false_and, and_false, decide_eq_true_eq, decide_true, decide_false, eq_self, not_true_eq_false, not_false_eq_true, jfit0, N_lit, N_add, N_mul, NEG_eq, pl_none, pl_some, rf_some, rf_none, jun_ref, jun_null, ir_ref, ir_null, jr_rf, jun_rf, Option.toList_some, Option.toList_none, List.nil_append, List.cons_append, ty_setI, ty_setR, ty_rowI, ty_rowR, jk_setI, jk_setR, jk_rowI, jk_rowR, jl_setI, jl_setR, jl_rowI, jl_rowR, sz_setI, sz_setR, sz_rowI, sz_rowR, ext_setI, ext_setR, iv_setI, iv_setR, iv_rowI, iv_rowR, rv_setI, rv_setR, rv_rowI, rv_rowR, iv_setIn, iv_rowIn, rv_setRn, rv_rowRn, iv_rowIe, rv_rowRe, k0, k4, l4, r4, jinb_N b2, jinb_N b3, hx, hy, N_nat b2, N_nat b3, show 30 ≤ 30 ∧ 30 < 36 by decide]
  rw [if_pos (jokel_rf (fun b hb => by simp only [ty_setI, ty_setR, ty_rowI, ty_rowR, jk_setI, jk_setR, jk_rowI, jk_rowR, jl_setI, jl_setR, jl_rowI, jl_rowR, sz_setI, sz_setR, sz_rowI, sz_rowR, ext_setI, ext_setR, iv_setI, iv_setR, iv_rowI, iv_rowR, rv_setI, rv_setR, rv_rowI, rv_rowR, iv_setIn, iv_rowIn, rv_setRn, rv_rowRn, iv_rowIe, rv_rowRe]; exact ht y b hb))]
  simp only [gI6, gR6, pI6, pR6, rv6, aI_eq, aB_eq, aR_eq, sI_eq, sB_eq, sR_eq, Option.bind_some, Option.bind_none, if_true, if_false, true_or, or_true, false_or, or_false, true_and, and_true, false_and, and_false, decide_eq_true_eq, decide_true, decide_false, eq_self, not_true_eq_false, not_false_eq_true, jfit0, N_lit, N_add, N_mul, NEG_eq, pl_none, pl_some, rf_some, rf_none, jun_ref, jun_null, ir_ref, ir_null, jr_rf, jun_rf, Option.toList_some, Option.toList_none, List.nil_append, List.cons_append, ty_setI, ty_setR, ty_rowI, ty_rowR, jk_setI, jk_setR, jk_rowI, jk_rowR, jl_setI, jl_setR, jl_rowI, jl_rowR, sz_setI, sz_setR, sz_rowI, sz_rowR, ext_setI, ext_setR, iv_setI, iv_setR, iv_rowI, iv_rowR, rv_setI, rv_setR, rv_rowI, rv_rowR, iv_setIn, iv_rowIn, rv_setRn, rv_rowRn, iv_rowIe, rv_rowRe, k0, k4, l4, r4, jinb_N b2, jinb_N b3, hx, hy, N_nat b2, N_nat b3, show 30 ≤ 30 ∧ 30 < 36 by decide, show ¬ g = g + 4 by omega]
  rw [if_pos (jokel_rf (fun b hb => by simp only [ty_setI, ty_setR, ty_rowI, ty_rowR, jk_setI, jk_setR, jk_rowI, jk_rowR, jl_setI, jl_setR, jl_rowI, jl_rowR, sz_setI, sz_setR, sz_rowI, sz_rowR, ext_setI, ext_setR, iv_setI, iv_setR, iv_rowI, iv_rowR, rv_setI, rv_setR, rv_rowI, rv_rowR, iv_setIn, iv_rowIn, rv_setRn, rv_rowRn, iv_rowIe, rv_rowRe]; exact ht x b hb))]
  simp only [aI_eq, aB_eq, aR_eq, sI_eq, sB_eq, sR_eq, Option.bind_some, Option.bind_none, if_true, if_false, true_or, or_true, false_or, or_false, true_and, and_true, false_and, and_false, decide_eq_true_eq, decide_true, decide_false, eq_self, not_true_eq_false, not_false_eq_true, jfit0, N_lit, N_add, N_mul, NEG_eq, pl_none, pl_some, rf_some, rf_none, jun_ref, jun_null, ir_ref, ir_null, jr_rf, jun_rf, Option.toList_some, Option.toList_none, List.nil_append, List.cons_append]
  exact congrArg (jR (d + 1) 96 36 _ []) (setR_setR_sw (μ := jrowI (jrowI (jrowI μ (g + 2) (swf (jiv μ (g + 2)) x y)) (g + 3) (swf (jiv μ (g + 3)) x y)) (g + 5) (swf (jiv μ (g + 5)) x y)) (a := g + 4) (i := x) (j := y))
theorem x_swapRows {i j : Nat} (hs : Gs μ g) (hn : Gn μ g) (hi : i < vN μ (xA g)) (hj : j < vN μ (xA g)) : jC (d + 1) 96 [.ref g, .int (N i), .int (N j)] μ = some (none, swr μ (xA g) i j) := by
  have hn8 := hn.2
  have b1 : i < 2147483648 := by omega
  have b2 : j < 2147483648 := by omega
  have b3 : vN μ (xA g) < 2147483648 := by omega
  have b0 : (0 : Nat) < 2147483648 := by decide
  rw [jC_run (by decide)]
  show jR (d + 1) 96 0 [.ref g, .int (N i), .int (N j), .retAddr 0, .retAddr 0, .retAddr 0, .retAddr 0] [] μ = _
  rw [b96_0]
  simp only [gI6, gR6, pI6, pR6, rv6, aI_eq, aB_eq, aR_eq, sI_eq, sB_eq, sR_eq, Option.bind_some, Option.bind_none, if_true, if_false, true_or, or_true, false_or, or_false, true_and, and_true, false_and, and_false, decide_eq_true_eq, decide_true, decide_false, eq_self, not_true_eq_false, not_false_eq_true, jfit0, N_lit, N_add, N_mul, NEG_eq, pl_none, pl_some, rf_some, rf_none, jun_ref, jun_null, ir_ref, ir_null, jr_rf, jun_rf, Option.toList_some, Option.toList_none, List.nil_append, List.cons_append, hs.1, hs.2.1, hn.1, N_lt b1 b0, N_lt b2 b0, Nat.not_lt_zero, N_lt b1 b3, N_lt b2 b3, hi, hj]
  rw [x_swap (by exact hs.1.2.1) (by rw [hs.1.2.2.1]; omega) (by rw [hs.1.2.2.1]; omega) (by rw [hs.1.2.2.1]; decide)]
  simp only [aI_eq, aB_eq, aR_eq, sI_eq, sB_eq, sR_eq, Option.bind_some, Option.bind_none, if_true, if_false, true_or, or_true, false_or, or_false, true_and, and_true, false_and, and_false, decide_eq_true_eq, decide_true, decide_false, eq_self, not_true_eq_false, not_false_eq_true, jfit0, N_lit, N_add, N_mul, NEG_eq, pl_none, pl_some, rf_some, rf_none, jun_ref, jun_null, ir_ref, ir_null, jr_rf, jun_rf, Option.toList_some, Option.toList_none, List.nil_append, List.cons_append, b96_34]
  have hs1 : Gs (jrowI μ (g + 1) (swf (jiv μ (g + 1)) i j)) g := gs_rowI hs
  rw [swapRows_step hs1 (by omega) (by omega) (by decide), swapRows_step (gs_swc hs1) (by omega) (by omega) (by decide), swapRows_step (gs_swc (gs_swc hs1)) (by omega) (by omega) (by decide)]
  rw [b96_36]
  simp only [aI_eq, aB_eq, aR_eq, sI_eq, sB_eq, sR_eq, Option.bind_some, Option.bind_none, if_true, if_false, true_or, or_true, false_or, or_false, true_and, and_true, false_and, and_false, decide_eq_true_eq, decide_true, decide_false, eq_self, not_true_eq_false, not_false_eq_true, jfit0, N_lit, N_add, N_mul, NEG_eq, pl_none, pl_some, rf_some, rf_none, jun_ref, jun_null, ir_ref, ir_null, jr_rf, jun_rf, Option.toList_some, Option.toList_none, List.nil_append, List.cons_append, N_lt (show (2 + 1 : Nat) < 2147483648 by decide) (show (3 : Nat) < 2147483648 by decide), show ¬ (2 + 1 : Nat) < 3 by decide, Nat.add_zero]
  rfl
theorem x_moveRow {p t : Nat} (hs : Gs μ g) (hn : Gn μ g) (hp : p < vN μ (xA g)) (ht : t < vN μ (xA g)) : ∃ μ', jC (d + 2) 95 [.ref g, .int (N p), .int (N t)] μ = some (none, μ') ∧ FG g μ μ' ∧ Gs μ' g ∧ Gn μ' g ∧ rG μ' (xA g) = lmove (rG μ (xA g)) p t := by
  have hn8 := hn.2
  have b1 : p < 2147483648 := by omega
  have b2 : t < 2147483648 := by omega
  -- the second loop
  have dn : ∀ k (m : jM) (i : Nat) (u1 : Value), Gs m g → Gn m g → vN m (xA g) = vN μ (xA g) → i - t = k → i < vN μ (xA g) → ∃ μ', jR (d + 2) 95 23 [.ref g, u1, .int (N t), .int (N i)] [] m = some (none, μ') ∧ FG g m μ' ∧ Gs μ' g ∧ Gn μ' g ∧ rG μ' (xA g) = ldn (rG m (xA g)) i k := by
    intro k
    induction k with
    | zero =>
      intro m i u1 h1 h2 h3 h4 h5
      have b3 : i < 2147483648 := by omega
      refine ⟨m, ?_, FG.refl, h1, h2, rfl⟩
      rw [b95_23]
      simp only [aI_eq, aB_eq, aR_eq, sI_eq, sB_eq, sR_eq, Option.bind_some, Option.bind_none, if_true, if_false, true_or, or_true, false_or, or_false, true_and, and_true, false_and, and_false, decide_eq_true_eq, decide_true, decide_false, eq_self, not_true_eq_false, not_false_eq_true, jfit0, N_lit, N_add, N_mul, NEG_eq, pl_none, pl_some, rf_some, rf_none, jun_ref, jun_null, ir_ref, ir_null, jr_rf, jun_rf, Option.toList_some, Option.toList_none, List.nil_append, List.cons_append, N_lt b2 b3, show ¬ t < i by omega]
    | succ k ih =>
      intro m i u1 h1 h2 h3 h4 h5
      have b3 : i < 2147483648 := by omega
      have hi1 : 1 ≤ i := by omega
      have h6 : i < vN m (xA g) := by omega
      have h7 : i - 1 < vN m (xA g) := by omega
      obtain ⟨μ', r1, r2, r3, r4, r5⟩ := ih (swr m (xA g) i (i - 1)) (i - 1) u1 (gs_swr h1) (gn_swr h2 h6 h7) (by rw [(rG_swr (xA_ok g) h6 h7).2]; exact h3) (by omega) (by omega)
      refine ⟨μ', ?_, fg_swr.trans r2, r3, r4, ?_⟩
      · rw [b95_23]
        simp only [gI6, gR6, pI6, pR6, rv6, aI_eq, aB_eq, aR_eq, sI_eq, sB_eq, sR_eq, Option.bind_some, Option.bind_none, if_true, if_false, true_or, or_true, false_or, or_false, true_and, and_true, false_and, and_false, decide_eq_true_eq, decide_true, decide_false, eq_self, not_true_eq_false, not_false_eq_true, jfit0, N_lit, N_add, N_mul, NEG_eq, pl_none, pl_some, rf_some, rf_none, jun_ref, jun_null, ir_ref, ir_null, jr_rf, jun_rf, Option.toList_some, Option.toList_none, List.nil_append, List.cons_append, N_lt b2 b3, show t < i by omega, h1.1, N_sub hi1]
        rw [x_swapRows h1 h2 h6 h7]
        simp only [aI_eq, aB_eq, aR_eq, sI_eq, sB_eq, sR_eq, Option.bind_some, Option.bind_none, if_true, if_false, true_or, or_true, false_or, or_false, true_and, and_true, false_and, and_false, decide_eq_true_eq, decide_true, decide_false, eq_self, not_true_eq_false, not_false_eq_true, jfit0, N_lit, N_add, N_mul, NEG_eq, pl_none, pl_some, rf_some, rf_none, jun_ref, jun_null, ir_ref, ir_null, jr_rf, jun_rf, Option.toList_some, Option.toList_none, List.nil_append, List.cons_append, b95_36, N_pred hi1]
        exact r1
      · rw [r5, (rG_swr (xA_ok g) h6 h7).1]; rfl
  have up : ∀ k (m : jM) (i : Nat), Gs m g → Gn m g → vN m (xA g) = vN μ (xA g) → t - i = k → i ≤ t → ∃ μ', jR (d + 2) 95 2 [.ref g, .int (N p), .int (N t), .int (N i)] [] m = jR (d + 2) 95 23 [.ref g, .int (N p), .int (N t), .int (N p)] [] μ' ∧ FG g m μ' ∧ Gs μ' g ∧ Gn μ' g ∧ vN μ' (xA g) = vN μ (xA g) ∧ rG μ' (xA g) = lup (rG m (xA g)) i k := by
    intro k
    induction k with
    | zero =>
      intro m i h1 h2 h3 h4 h5
      refine ⟨m, ?_, FG.refl, h1, h2, h3, rfl⟩
      rw [b95_2]
      have hx : i < 2147483648 := by omega
      simp only [aI_eq, aB_eq, aR_eq, sI_eq, sB_eq, sR_eq, Option.bind_some, Option.bind_none, if_true, if_false, true_or, or_true, false_or, or_false, true_and, and_true, false_and, and_false, decide_eq_true_eq, decide_true, decide_false, eq_self, not_true_eq_false, not_false_eq_true, jfit0, N_lit, N_add, N_mul, NEG_eq, pl_none, pl_some, rf_some, rf_none, jun_ref, jun_null, ir_ref, ir_null, jr_rf, jun_rf, Option.toList_some, Option.toList_none, List.nil_append, List.cons_append, N_lt hx b2, show ¬ i < t by omega]
    | succ k ih =>
      intro m i h1 h2 h3 h4 h5
      have b3 : i < 2147483648 := by omega
      have h6 : i < vN m (xA g) := by omega
      have h7 : i + 1 < vN m (xA g) := by omega
      obtain ⟨μ', r1, r2, r3, r4, r5, r6⟩ := ih (swr m (xA g) i (i + 1)) (i + 1) (gs_swr h1) (gn_swr h2 h6 h7) (by rw [(rG_swr (xA_ok g) h6 h7).2]; exact h3) (by omega) (by omega)
      refine ⟨μ', ?_, fg_swr.trans r2, r3, r4, r5, ?_⟩
      · rw [b95_2]
        simp only [gI6, gR6, pI6, pR6, rv6, aI_eq, aB_eq, aR_eq, sI_eq, sB_eq, sR_eq, Option.bind_some, Option.bind_none, if_true, if_false, true_or, or_true, false_or, or_false, true_and, and_true, false_and, and_false, decide_eq_true_eq, decide_true, decide_false, eq_self, not_true_eq_false, not_false_eq_true, jfit0, N_lit, N_add, N_mul, NEG_eq, pl_none, pl_some, rf_some, rf_none, jun_ref, jun_null, ir_ref, ir_null, jr_rf, jun_rf, Option.toList_some, Option.toList_none, List.nil_append, List.cons_append, N_lt b3 b2, show i < t by omega, h1.1]
        rw [x_swapRows h1 h2 h6 h7]
        simp only [aI_eq, aB_eq, aR_eq, sI_eq, sB_eq, sR_eq, Option.bind_some, Option.bind_none, if_true, if_false, true_or, or_true, false_or, or_false, true_and, and_true, false_and, and_false, decide_eq_true_eq, decide_true, decide_false, eq_self, not_true_eq_false, not_false_eq_true, jfit0, N_lit, N_add, N_mul, NEG_eq, pl_none, pl_some, rf_some, rf_none, jun_ref, jun_null, ir_ref, ir_null, jr_rf, jun_rf, Option.toList_some, Option.toList_none, List.nil_append, List.cons_append, b95_15]
        exact r1
      · rw [r6, (rG_swr (xA_ok g) h6 h7).1]; rfl
  rw [jC_run (by decide)]
  show ∃ μ', jR (d + 2) 95 0 [.ref g, .int (N p), .int (N t), .retAddr 0] [] μ = _ ∧ _
  rw [b95_0]
  by_cases hpt : p < t
  · obtain ⟨m, r1, r2, r3, r4, r5, r6⟩ := up (t - p) μ p hs hn rfl rfl (by omega)
    obtain ⟨μ', q1, q2, q3, q4, q5⟩ := dn 0 m p (.int (N p)) r3 r4 r5 (by omega) hp
    refine ⟨μ', r1.trans q1, r2.trans q2, q3, q4, ?_⟩
    rw [q5]
    unfold lmove
    rw [if_pos hpt]
    exact r6
  · obtain ⟨μ', q1, q2, q3, q4, q5⟩ := dn (p - t) μ p (.int (N p)) hs hn rfl rfl hp
    refine ⟨μ', ?_, q2, q3, q4, ?_⟩
    · rw [b95_2]
      simp only [aI_eq, aB_eq, aR_eq, sI_eq, sB_eq, sR_eq, Option.bind_some, Option.bind_none, if_true, if_false, true_or, or_true, false_or, or_false, true_and, and_true, false_and, and_false, decide_eq_true_eq, decide_true, decide_false, eq_self, not_true_eq_false, not_false_eq_true, jfit0, N_lit, N_add, N_mul, NEG_eq, pl_none, pl_some, rf_some, rf_none, jun_ref, jun_null, ir_ref, ir_null, jr_rf, jun_rf, Option.toList_some, Option.toList_none, List.nil_append, List.cons_append, N_lt b1 b2, hpt]
      exact q1
    · rw [q5]
      unfold lmove
      rw [if_neg hpt]
end GRID
