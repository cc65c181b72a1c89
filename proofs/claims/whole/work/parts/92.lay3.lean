section LAY
variable {μ μ' ν : jM} {S S' : Nat → Prop} {T T' : Nat → Nat → Prop} {M g h t s n w d D i j k x y a b c : Nat} {A B C : GA}
theorem r_layBack (hq : QS μ M) (ht : t < 14) (hg : g < 4) (hr : ∀ j b, jrv μ (M + 330 + 5 * t + g) j = some b → jk μ b = 20) : jC (d + 1) 162 [.ref M, .int (N t), .int (N g)] μ = some (none, cpF (gcI μ (aA M t g) (mA M g)) (aA M t g) (mA M g) 24) := by
  obtain ⟨f0, f1, f2, f3, f4, f5⟩ := hq.f
  obtain ⟨p0, p1, p2, p3, p4, p5⟩ := hq.af
  obtain ⟨a1, a2, a3, a4, a5, a6⟩ := hq.gr hg
  obtain ⟨r0, r1, r2, r3, r4, r5⟩ := hq.ar ht
  obtain ⟨s1, s2, s3, s4, s5⟩ := hq.ag ht hg
  have hd := (ma_dis (M := M) hg hg ht).2
  have hA := hq.gka ht hg
  have hB := hq.gkm hg
  have k13 := hq.k13
  have hro := ent_get (μ := μ) (hq.ak ht hg).1.1 (hq.ak ht hg).1.2 hg (by decide)
  have e0 := hq.rs (v := jiv μ (M + 30 + t) g) hg
  obtain ⟨m2, m3, m4, c1, c2, c3, c4, ⟨x1, x2, x3⟩, ⟨x4, x5, x6⟩, x7, x8, x9⟩ := gc_steps (mA_ok (M := M) hg) hd hA hB
  have c1 : jcp (jsetI μ (M + 1) g (jiv μ (M + 30 + t) g)) (.ref (M + 46 + 5 * t + g)) (N 0) (.ref (M + 3 + g)) (N 0) (N 8) = some m2 := c1
  have c2 : jcp m2 (.ref (M + 117 + 5 * t + g)) (N 0) (.ref (M + 8 + g)) (N 0) (N 24) = some m3 := c2
  have c3 : jcp m3 (.ref (M + 188 + 5 * t + g)) (N 0) (.ref (M + 13 + g)) (N 0) (N 24) = some m4 := c3
  have c4 : jcp m4 (.ref (M + 259 + 5 * t + g)) (N 0) (.ref (M + 18 + g)) (N 0) (N 24) = some (gcI μ (aA M t g) (mA M g)) := c4
  have loop : ∀ (m n : Nat), n + m = 24 → jR (d + 1) 162 100 [.ref M, .int (N t), .int (N g), .int (N n)] [] (cpF (gcI μ (aA M t g) (mA M g)) (aA M t g) (mA M g) n) = some (none, cpF (gcI μ (aA M t g) (mA M g)) (aA M t g) (mA M g) 24) := by
    intro m
    induction m with
    | zero =>
      intro n hn
      have : n = 24 := by omega
      subst this
      rw [b162_100, if_neg (by decide)]
    | succ m ih =>
      intro n hn
      obtain ⟨z1, z2⟩ := gc_refs hd hA hB hr (show n < 24 by omega)
      have z1 : jaR (cpF (gcI μ (aA M t g) (mA M g)) (aA M t g) (mA M g) n) (.ref (M + 330 + 5 * t + g)) (N n) = some (va_rf (jrv μ (M + 330 + 5 * t + g) n)) := z1
      have z2 : jsR (cpF (gcI μ (aA M t g) (mA M g)) (aA M t g) (mA M g) n) (.ref (M + 23 + g)) (N n) (va_rf (jrv μ (M + 330 + 5 * t + g) n)) = some (cpF (gcI μ (aA M t g) (mA M g)) (aA M t g) (mA M g) (n + 1)) := z2
      have w : ∀ b y, b ≠ M + 23 + g → jaR (cpF (gcI μ (aA M t g) (mA M g)) (aA M t g) (mA M g) n) (.ref b) y = jaR μ (.ref b) y := fun b y hb => aR_cpF hb
      have w1 := w (M + 328) (N t) (by omega)
      have w2 := w (M + 329 + 5 * t) (N g) (by omega)
      have w3 := w (M + 22) (N g) (by omega)
      have y1 : jrv (cpF (gcI μ (aA M t g) (mA M g)) (aA M t g) (mA M g) n) M = jrv μ M := rv_rowRn (show ¬ M = M + 23 + g by omega)
      have y2 : jk (cpF (gcI μ (aA M t g) (mA M g)) (aA M t g) (mA M g) n) M = 13 := k13
      have := ih (n + 1) (by omega)
      generalize cpF (gcI μ (aA M t g) (mA M g)) (aA M t g) (mA M g) n = m1 at *
      rw [b162_100, if_pos (by show N n < N 24; rw [N_lt (by omega) (by decide)]; omega)]
      simp only [gI13, gR13, pI13, pR13, rv13, Option.bind_some, Option.bind_none, if_true, if_false, true_or, or_true, false_or, or_false, true_and, and_true, false_and, and_false, decide_eq_true_eq, decide_true, decide_false, eq_self, not_true_eq_false, not_false_eq_true, jfit0, N_lit, N_add, N_mul, NEG_eq, pl_none, pl_some, rf_some, rf_none, jun_ref, jun_null, ir_ref, ir_null, jr_rf, jun_rf, Option.toList_some, Option.toList_none, List.nil_append, List.cons_append, y1, y2, p5, f5, w1, w2, w3, r5, s5, a5, z1, z2]
      exact this
  rw [jC_run (by decide)]
  show jR (d + 1) 162 0 [.ref M, .int (N t), .int (N g), .retAddr 0] [] μ = _
  rw [b162_0]
  have l0 := loop 24 0 (by omega)
  rw [cpF_zero] at l0
  generalize cpF (gcI μ (aA M t g) (mA M g)) (aA M t g) (mA M g) 24 = fin at *
  generalize gcI μ (aA M t g) (mA M g) = m5 at *
  simp only [gI13, gR13, pI13, pR13, rv13, Option.bind_some, Option.bind_none, if_true, if_false, true_or, or_true, false_or, or_false, true_and, and_true, false_and, and_false, decide_eq_true_eq, decide_true, decide_false, eq_self, not_true_eq_false, not_false_eq_true, jfit0, N_lit, N_add, N_mul, NEG_eq, pl_none, pl_some, rf_some, rf_none, jun_ref, jun_null, ir_ref, ir_null, jr_rf, jun_rf, Option.toList_some, Option.toList_none, List.nil_append, List.cons_append, aR_setI, jk_setI, rv_setI, k13, x1, x2, x3, x4, x5, x6, x7, x8, x9, f0, f1, f2, f3, f4, p0, p1, p2, p3, p4, r0, r1, r2, r3, r4, s1, s2, s3, s4, a1, a2, a3, a4, hro, e0, c1, c2, c3, c4]
  exact l0
end LAY
