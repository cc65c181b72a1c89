/-! THE REFERENCE: rows that change places -/
/-- two cells change places -/
def scC (μ : jM) (A : GA) (x y : Nat) : jM := putT (putC (cpC μ A y A x) A y (rc μ A x).1 (rc μ A x).2.1 (rc μ A x).2.2.1) A y (rc μ A x).2.2.2
section LAY
variable {μ μ' ν : jM} {S S' : Nat → Prop} {T T' : Nat → Nat → Prop} {M g h t s n w d D i j k x y a b c : Nat} {A B C : GA}
theorem rc_scC (hA : Aok A) : rc (scC μ A x y) A = swf (rc μ A) x y := by
  unfold scC
  rw [rc_putT hA, rc_putC hA, rc_cpC hA]
  funext z
  unfold updf swf
  by_cases e : z = y
  · subst e; simp
  · simp [e]
theorem key_scC (hA : Aok A) : jiv (scC μ A x y) (A.1 1) = jiv μ (A.1 1) := by
  unfold scC
  rw [key_putT hA, key_putC hA, key_cpC hA]
theorem scC_fr : FMg M h μ (scC μ (mA M h) x y) := by
  refine FMg.trans (cpC_fr (M := M) (h := h) (μ := μ) (A := mA M h) (x := y) (y := x)) ?_
  unfold scC putT putC
  refine Fx.setI (Fx.setR (Fx.setI (Fx.setI Fx.refl ?_) ?_) ?_) ?_
  · exact Or.inr (Or.inl rfl)
  · exact Or.inr (Or.inr (Or.inl rfl))
  · exact (rfl : M + 23 + h = M + 23 + h)
  · exact Or.inr (Or.inr (Or.inr rfl))
theorem jk_scC : jk (scC μ A x y) = jk μ := by
  unfold scC putT putC
  simp only [jk_setI, jk_setR, jk_cpC]
theorem scC_ref (hf : ∀ j b, jrv μ (M + 23 + h) j = some b → jk μ b = 20) : ∀ j b, jrv (scC μ (mA M h) x y) (M + 23 + h) j = some b → jk (scC μ (mA M h) x y) b = 20 := by
  rw [jk_scC]
  intro j b hb
  have hb : (if M + 23 + h = M + 23 + h ∧ j = y then jrv μ (M + 23 + h) x else if M + 23 + h = M + 23 + h ∧ j = x then jrv μ (M + 23 + h) y else jrv μ (M + 23 + h) j) = some b := hb
  split at hb
  · exact hf x b hb
  · split at hb
    · exact hf y b hb
    · exact hf j b hb
theorem sw_step {k : Nat} {u4 u6 u7 u8 u9 u10 u11 : Value} (hq : QS μ M) (hg : g < 4) (hi : i < 8) (hk : k < 8) (hc : c < 3) (hf : ∀ j b, jrv μ (M + 23 + g) j = some b → jk μ b = 20) : ∃ v6 v7 v8 v9 v10 v11 : Value, jR (d + 1) 202 39 [.ref M, .int (N g), .int (N i), .int (N k), u4, .int (N c), u6, u7, u8, u9, u10, u11] [] μ = jR (d + 1) 202 39 [.ref M, .int (N g), .int (N i), .int (N k), u4, .int (N (c + 1)), v6, v7, v8, v9, v10, v11] [] (scC μ (mA M g) (i * 3 + c) (k * 3 + c)) := by
  obtain ⟨f0, f1, f2, f3, f4, f5⟩ := hq.f
  obtain ⟨a1, a2, a3, a4, a5, a6⟩ := hq.gr hg
  obtain ⟨g1, g2, g3, g4, g5, g6⟩ := hq.gk hg
  have k13 := hq.k13
  have hx : i * 3 + c < 24 := by omega
  have hy : k * 3 + c < 24 := by omega
  have e1 := ent_get (μ := μ) g2.1 g2.2 hx (by decide)
  have e2 := ent_get (μ := μ) g3.1 g3.2 hx (by decide)
  have e3 := ent_get (μ := μ) g4.1 g4.2 hx (by decide)
  have e4 := refGet' (μ := μ) (a := M + 23 + g) (l := 24) (by rw [g5.1]; decide) g5.2 hx (by decide)
  have c1 := r_copyCell (d := d) hq hg hg hy hx hf
  have q2 : QS (cpC μ (mA M g) (k * 3 + c) (mA M g) (i * 3 + c)) M := cpC_fr.qs hg hq
  have hr : ∀ b, jrv μ (M + 23 + g) (i * 3 + c) = some b → jk (cpC μ (mA M g) (k * 3 + c) (mA M g) (i * 3 + c)) b = 20 := fun b hb => by rw [jk_cpC]; exact hf _ b hb
  have es : scC μ (mA M g) (i * 3 + c) (k * 3 + c) = jsetR (jsetI (jsetI (jsetI (cpC μ (mA M g) (k * 3 + c) (mA M g) (i * 3 + c)) (M + 8 + g) (k * 3 + c) (jiv μ (M + 8 + g) (i * 3 + c))) (M + 13 + g) (k * 3 + c) (jiv μ (M + 13 + g) (i * 3 + c))) (M + 18 + g) (k * 3 + c) (jiv μ (M + 18 + g) (i * 3 + c))) (M + 23 + g) (k * 3 + c) (jrv μ (M + 23 + g) (i * 3 + c)) := rfl
  rw [es]
  refine ⟨.int (N (i * 3 + c)), .int (N (k * 3 + c)), .int (jiv μ (M + 8 + g) (i * 3 + c)), .int (jiv μ (M + 13 + g) (i * 3 + c)), .int (jiv μ (M + 18 + g) (i * 3 + c)), va_rf (jrv μ (M + 23 + g) (i * 3 + c)), ?_⟩
  rw [b202_39, if_pos (by show N c < N 3; rw [N_lt (by omega) (by decide)]; exact hc)]
  simp only [N_lit, N_mul, N_add, Nat.mul_comm 3, gI13, gR13, pI13, pR13, rv13, Option.bind_some, Option.bind_none, if_true, if_false, true_or, or_true, false_or, or_false, true_and, and_true, false_and, and_false, decide_eq_true_eq, decide_true, decide_false, eq_self, not_true_eq_false, not_false_eq_true, jfit0, N_lit, N_add, N_mul, NEG_eq, pl_none, pl_some, rf_some, rf_none, jun_ref, jun_null, ir_ref, ir_null, jr_rf, jun_rf, Option.toList_some, Option.toList_none, List.nil_append, List.cons_append, k13, f2, f3, f4, f5, a2, a3, a4, a5, e1, e2, e3, e4, c1]
  generalize cpC μ (mA M g) (k * 3 + c) (mA M g) (i * 3 + c) = m at *
  obtain ⟨f0, f1, f2, f3, f4, f5⟩ := q2.f
  obtain ⟨a1, a2, a3, a4, a5, a6⟩ := q2.gr hg
  obtain ⟨g1, g2, g3, g4, g5, g6⟩ := q2.gk hg
  have k13 := q2.k13
  have s1 := ent_set (μ := m) (v := jiv μ (M + 8 + g) (i * 3 + c)) g2.1 g2.2 hy (by decide)
  have s2 := ent_set (μ := jsetI m (M + 8 + g) (k * 3 + c) (jiv μ (M + 8 + g) (i * 3 + c))) (v := jiv μ (M + 13 + g) (i * 3 + c)) g3.1 g3.2 hy (by decide)
  have s3 := ent_set (μ := jsetI (jsetI m (M + 8 + g) (k * 3 + c) (jiv μ (M + 8 + g) (i * 3 + c))) (M + 13 + g) (k * 3 + c) (jiv μ (M + 13 + g) (i * 3 + c))) (v := jiv μ (M + 18 + g) (i * 3 + c)) g4.1 g4.2 hy (by decide)
  have s4 := refSet (μ := jsetI (jsetI (jsetI m (M + 8 + g) (k * 3 + c) (jiv μ (M + 8 + g) (i * 3 + c))) (M + 13 + g) (k * 3 + c) (jiv μ (M + 13 + g) (i * 3 + c))) (M + 18 + g) (k * 3 + c) (jiv μ (M + 18 + g) (i * 3 + c))) (a := M + 23 + g) (r := jrv μ (M + 23 + g) (i * 3 + c)) g5.1 g5.2 hy (by decide) hr
  rw [b202_115 (h11 := jr_rf)]
  simp only [gI13, gR13, pI13, pR13, rv13, Option.bind_some, Option.bind_none, if_true, if_false, true_or, or_true, false_or, or_false, true_and, and_true, false_and, and_false, decide_eq_true_eq, decide_true, decide_false, eq_self, not_true_eq_false, not_false_eq_true, jfit0, N_lit, N_add, N_mul, NEG_eq, pl_none, pl_some, rf_some, rf_none, jun_ref, jun_null, ir_ref, ir_null, jr_rf, jun_rf, Option.toList_some, Option.toList_none, List.nil_append, List.cons_append, aR_setI, jk_setI, rv_setI, k13, f2, f3, f4, f5, a2, a3, a4, a5, s1, s2, s3, s4]
theorem r_swapRows {k : Nat} (hq : QS μ M) (hG : GQ μ M g) (hi : i < vN μ (mA M g)) (hk : k < vN μ (mA M g)) : ∃ μ', jC (d + 1) 202 [.ref M, .int (N g), .int (N i), .int (N k)] μ = some (none, μ') ∧ FMg M g μ μ' ∧ GQ μ' M g ∧ rG μ' (mA M g) = lswap (rG μ (mA M g)) i k := by
  obtain ⟨hg, g1, g8, gf⟩ := hG
  have hA := mA_ok (M := M) hg
  have k13 := hq.k13
  obtain ⟨f0, f1, -⟩ := hq.f
  obtain ⟨a1, -⟩ := hq.gr hg
  obtain ⟨i1, -⟩ := hq.gk hg
  have e1 := ent_get (μ := μ) (i := i) i1.1 i1.2 (by omega) (by decide)
  have e2 := ent_get (μ := μ) (i := k) i1.1 i1.2 (by omega) (by decide)
  have e3 := ent_set (μ := μ) (i := i) (v := jiv μ (M + 3 + g) k) i1.1 i1.2 (by omega) (by decide)
  have e4 := ent_set (μ := jsetI μ (M + 3 + g) i (jiv μ (M + 3 + g) k)) (i := k) (v := jiv μ (M + 3 + g) i) i1.1 i1.2 (by omega) (by decide)
  have F1 : FMg M g μ (jsetI (jsetI μ (M + 3 + g) i (jiv μ (M + 3 + g) k)) (M + 3 + g) k (jiv μ (M + 3 + g) i)) := Fx.setI (Fx.setI Fx.refl (Or.inl rfl)) (Or.inl rfl)
  have hkey : jiv (jsetI (jsetI μ (M + 3 + g) i (jiv μ (M + 3 + g) k)) (M + 3 + g) k (jiv μ (M + 3 + g) i)) ((mA M g).1 1) = swf (jiv μ ((mA M g).1 1)) i k := by
    funext z
    show (if M + 3 + g = M + 3 + g ∧ z = k then jiv μ (M + 3 + g) i else if M + 3 + g = M + 3 + g ∧ z = i then jiv μ (M + 3 + g) k else jiv μ (M + 3 + g) z) = if z = k then jiv μ (M + 3 + g) i else if z = i then jiv μ (M + 3 + g) k else jiv μ (M + 3 + g) z
    simp only [true_and]
  have hrc : rc (jsetI (jsetI μ (M + 3 + g) i (jiv μ (M + 3 + g) k)) (M + 3 + g) k (jiv μ (M + 3 + g) i)) (mA M g) = rc μ (mA M g) := by
    funext z
    have n : ∀ a, a ≠ M + 3 + g → jiv (jsetI (jsetI μ (M + 3 + g) i (jiv μ (M + 3 + g) k)) (M + 3 + g) k (jiv μ (M + 3 + g) i)) a = jiv μ a := fun a ha => by rw [iv_setIn ha, iv_setIn ha]
    unfold rc
    rw [n ((mA M g).1 2) (show M + 8 + g ≠ M + 3 + g by omega), n ((mA M g).1 3) (show M + 13 + g ≠ M + 3 + g by omega), n ((mA M g).1 5) (show M + 18 + g ≠ M + 3 + g by omega)]
    rfl
  have gf1 : ∀ j b, jrv (jsetI (jsetI μ (M + 3 + g) i (jiv μ (M + 3 + g) k)) (M + 3 + g) k (jiv μ (M + 3 + g) i)) (M + 23 + g) j = some b → jk (jsetI (jsetI μ (M + 3 + g) i (jiv μ (M + 3 + g) k)) (M + 3 + g) k (jiv μ (M + 3 + g) i)) b = 20 := gf
  have c0 : jC (d + 1) 202 [.ref M, .int (N g), .int (N i), .int (N k)] μ = jR (d + 1) 202 39 [.ref M, .int (N g), .int (N i), .int (N k), .int (jiv μ (M + 3 + g) i), .int (N 0), .retAddr 0, .retAddr 0, .retAddr 0, .retAddr 0, .retAddr 0, .retAddr 0] [] (jsetI (jsetI μ (M + 3 + g) i (jiv μ (M + 3 + g) k)) (M + 3 + g) k (jiv μ (M + 3 + g) i)) := by
    rw [jC_run (by decide)]
    show jR (d + 1) 202 0 [.ref M, .int (N g), .int (N i), .int (N k), .retAddr 0, .retAddr 0, .retAddr 0, .retAddr 0, .retAddr 0, .retAddr 0, .retAddr 0, .retAddr 0] [] μ = _
    rw [b202_0]
    simp only [N_lit, gI13, gR13, pI13, pR13, rv13, Option.bind_some, Option.bind_none, if_true, if_false, true_or, or_true, false_or, or_false, true_and, and_true, false_and, and_false, decide_eq_true_eq, decide_true, decide_false, eq_self, not_true_eq_false, not_false_eq_true, jfit0, N_lit, N_add, N_mul, NEG_eq, pl_none, pl_some, rf_some, rf_none, jun_ref, jun_null, ir_ref, ir_null, jr_rf, jun_rf, Option.toList_some, Option.toList_none, List.nil_append, List.cons_append, aR_setI, jk_setI, rv_setI, k13, f1, a1, e1, e2, e3, e4]
  rw [c0]
  generalize jsetI (jsetI μ (M + 3 + g) i (jiv μ (M + 3 + g) k)) (M + 3 + g) k (jiv μ (M + 3 + g) i) = m at *
  have qm := F1.qs hg hq
  obtain ⟨v6, v7, v8, v9, v10, v11, s1⟩ := sw_step (d := d) (u4 := .int (jiv μ (M + 3 + g) i)) (u6 := .retAddr 0) (u7 := .retAddr 0) (u8 := .retAddr 0) (u9 := .retAddr 0) (u10 := .retAddr 0) (u11 := .retAddr 0) (i := i) (k := k) (c := 0) qm hg (by omega) (by omega) (by decide) gf1
  have F2 := F1.trans (scC_fr (M := M) (h := g) (μ := m) (x := i * 3 + 0) (y := k * 3 + 0))
  have gf2 := scC_ref (x := i * 3 + 0) (y := k * 3 + 0) gf1
  obtain ⟨w6, w7, w8, w9, w10, w11, s2⟩ := sw_step (d := d) (u4 := .int (jiv μ (M + 3 + g) i)) (u6 := v6) (u7 := v7) (u8 := v8) (u9 := v9) (u10 := v10) (u11 := v11) (i := i) (k := k) (c := 1) (F2.qs hg hq) hg (by omega) (by omega) (by decide) gf2
  have F3 := F2.trans (scC_fr (M := M) (h := g) (μ := scC m (mA M g) (i * 3 + 0) (k * 3 + 0)) (x := i * 3 + 1) (y := k * 3 + 1))
  have gf3 := scC_ref (x := i * 3 + 1) (y := k * 3 + 1) gf2
  obtain ⟨x6, x7, x8, x9, x10, x11, s3⟩ := sw_step (d := d) (u4 := .int (jiv μ (M + 3 + g) i)) (u6 := w6) (u7 := w7) (u8 := w8) (u9 := w9) (u10 := w10) (u11 := w11) (i := i) (k := k) (c := 2) (F3.qs hg hq) hg (by omega) (by omega) (by decide) gf3
  have F4 := F3.trans (scC_fr (M := M) (h := g) (μ := scC (scC m (mA M g) (i * 3 + 0) (k * 3 + 0)) (mA M g) (i * 3 + 1) (k * 3 + 1)) (x := i * 3 + 2) (y := k * 3 + 2))
  have gf4 := scC_ref (x := i * 3 + 2) (y := k * 3 + 2) gf3
  have ev : vN (scC (scC (scC m (mA M g) (i * 3 + 0) (k * 3 + 0)) (mA M g) (i * 3 + 1) (k * 3 + 1)) (mA M g) (i * 3 + 2) (k * 3 + 2)) (mA M g) = vN μ (mA M g) := by
    rw [vN_m, vN_m, F4.iv (by show ¬ SMg M g (M + 1); unfold SMg; omega)]
  refine ⟨_, ?_, F4, ⟨hg, ?_, by rw [ev]; exact g8, gf4⟩, ?_⟩
  · rw [s1, s2, s3, b202_39, if_neg (by decide)]
  · rw [ev, F4.iv (by show ¬ SMg M g (M + 1); unfold SMg; omega)]; exact g1
  · unfold rG
    rw [ev, key_scC hA, key_scC hA, key_scC hA, hkey, rc_scC hA, rc_scC hA, rc_scC hA, hrc]
    exact mkL_swap hi hk (fun z b hb => sw3 hb)
end LAY
