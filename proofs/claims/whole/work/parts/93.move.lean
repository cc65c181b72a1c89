section LAY
variable {μ μ' ν : jM} {S S' : Nat → Prop} {T T' : Nat → Nat → Prop} {M g h t s n w d D i j k x y a b c : Nat} {A B C : GA}
/-- one grid laid further aside -/
theorem moveStep {u4 : Value} (hq : QS μ M) (ht : t < 14) (hs : s < 14) (hts : t ≠ s) (hg : g < 3) (hr : ∀ j b, jrv μ (M + 330 + 5 * t + g) j = some b → jk μ b = 20) : jR (d + 1) 190 2 [.ref M, .int (N t), .int (N s), .int (N g), u4] [] μ = jR (d + 1) 190 2 [.ref M, .int (N t), .int (N s), .int (N (g + 1)), .int (N 24)] [] (cpF (gcI μ (aA M t g) (aA M s g)) (aA M t g) (aA M s g) 24) := by
  have hg4 : g < 4 := by omega
  obtain ⟨p0, p1, p2, p3, p4, p5⟩ := hq.af
  obtain ⟨r0, r1, r2, r3, r4, r5⟩ := hq.ar ht
  obtain ⟨s1, s2, s3, s4, s5⟩ := hq.ag ht hg4
  obtain ⟨r0', r1', r2', r3', r4', r5'⟩ := hq.ar hs
  obtain ⟨s1', s2', s3', s4', s5'⟩ := hq.ag hs hg4
  have hd := aa_dis (M := M) hg4 hg4 ht hs hts
  have hA := hq.gka ht hg4
  have hB := hq.gka hs hg4
  have k13 := hq.k13
  have hro := ent_get (μ := μ) (hq.ak ht hg4).1.1 (hq.ak ht hg4).1.2 hg4 (by decide)
  have e0 := ent_set (μ := μ) (v := jiv μ (M + 30 + t) g) (hq.ak hs hg4).1.1 (hq.ak hs hg4).1.2 hg4 (by decide)
  obtain ⟨m2, m3, m4, c1, c2, c3, c4, ⟨x1, x2, x3⟩, ⟨x4, x5, x6⟩, x7, x8, x9⟩ := gc_steps (aA_ok (M := M) hg4 hs) hd hA hB
  have c1 : jcp (jsetI μ (M + 30 + s) g (jiv μ (M + 30 + t) g)) (.ref (M + 46 + 5 * t + g)) (N 0) (.ref (M + 46 + 5 * s + g)) (N 0) (N 8) = some m2 := c1
  have c2 : jcp m2 (.ref (M + 117 + 5 * t + g)) (N 0) (.ref (M + 117 + 5 * s + g)) (N 0) (N 24) = some m3 := c2
  have c3 : jcp m3 (.ref (M + 188 + 5 * t + g)) (N 0) (.ref (M + 188 + 5 * s + g)) (N 0) (N 24) = some m4 := c3
  have c4 : jcp m4 (.ref (M + 259 + 5 * t + g)) (N 0) (.ref (M + 259 + 5 * s + g)) (N 0) (N 24) = some (gcI μ (aA M t g) (aA M s g)) := c4
  have loop : ∀ (m n : Nat), n + m = 24 → jR (d + 1) 190 118 [.ref M, .int (N t), .int (N s), .int (N g), .int (N n)] [] (cpF (gcI μ (aA M t g) (aA M s g)) (aA M t g) (aA M s g) n) = jR (d + 1) 190 2 [.ref M, .int (N t), .int (N s), .int (N (g + 1)), .int (N 24)] [] (cpF (gcI μ (aA M t g) (aA M s g)) (aA M t g) (aA M s g) 24) := by
    intro m
    induction m with
    | zero =>
      intro n hn
      have : n = 24 := by omega
      subst this
      rw [b190_118, if_neg (by decide)]
      simp only [N_lit, N_add]
    | succ m ih =>
      intro n hn
      obtain ⟨z1, z2⟩ := gc_refs hd hA hB hr (show n < 24 by omega)
      have z1 : jaR (cpF (gcI μ (aA M t g) (aA M s g)) (aA M t g) (aA M s g) n) (.ref (M + 330 + 5 * t + g)) (N n) = some (va_rf (jrv μ (M + 330 + 5 * t + g) n)) := z1
      have z2 : jsR (cpF (gcI μ (aA M t g) (aA M s g)) (aA M t g) (aA M s g) n) (.ref (M + 330 + 5 * s + g)) (N n) (va_rf (jrv μ (M + 330 + 5 * t + g) n)) = some (cpF (gcI μ (aA M t g) (aA M s g)) (aA M t g) (aA M s g) (n + 1)) := z2
      have w : ∀ b y, b ≠ M + 330 + 5 * s + g → jaR (cpF (gcI μ (aA M t g) (aA M s g)) (aA M t g) (aA M s g) n) (.ref b) y = jaR μ (.ref b) y := fun b y hb => aR_cpF hb
      have w1 := w (M + 328) (N t) (by omega)
      have w2 := w (M + 329 + 5 * t) (N g) (by omega)
      have w3 := w (M + 328) (N s) (by omega)
      have w4 := w (M + 329 + 5 * s) (N g) (by omega)
      have y1 : jrv (cpF (gcI μ (aA M t g) (aA M s g)) (aA M t g) (aA M s g) n) M = jrv μ M := rv_rowRn (show ¬ M = M + 330 + 5 * s + g by omega)
      have y2 : jk (cpF (gcI μ (aA M t g) (aA M s g)) (aA M t g) (aA M s g) n) M = 13 := k13
      have := ih (n + 1) (by omega)
      generalize cpF (gcI μ (aA M t g) (aA M s g)) (aA M t g) (aA M s g) n = m1 at *
      rw [b190_118, if_pos (by show N n < N 24; rw [N_lt (by omega) (by decide)]; omega)]
      simp only [gI13, gR13, pI13, pR13, rv13, Option.bind_some, Option.bind_none, if_true, if_false, true_or, or_true, false_or, or_false, true_and, and_true, false_and, and_false, decide_eq_true_eq, decide_true, decide_false, eq_self, not_true_eq_false, not_false_eq_true, jfit0, N_lit, N_add, N_mul, NEG_eq, pl_none, pl_some, rf_some, rf_none, jun_ref, jun_null, ir_ref, ir_null, jr_rf, jun_rf, Option.toList_some, Option.toList_none, List.nil_append, List.cons_append, y1, y2, p5, w1, w2, w3, w4, r5, s5, r5', s5', z1, z2]
      exact this
  have l0 := loop 24 0 (by omega)
  rw [cpF_zero] at l0
  generalize cpF (gcI μ (aA M t g) (aA M s g)) (aA M t g) (aA M s g) 24 = fin at *
  generalize gcI μ (aA M t g) (aA M s g) = m5 at *
  rw [b190_2, if_pos (by show N g < N 3; rw [N_lt (by omega) (by decide)]; exact hg)]
  simp only [gI13, gR13, pI13, pR13, rv13, Option.bind_some, Option.bind_none, if_true, if_false, true_or, or_true, false_or, or_false, true_and, and_true, false_and, and_false, decide_eq_true_eq, decide_true, decide_false, eq_self, not_true_eq_false, not_false_eq_true, jfit0, N_lit, N_add, N_mul, NEG_eq, pl_none, pl_some, rf_some, rf_none, jun_ref, jun_null, ir_ref, ir_null, jr_rf, jun_rf, Option.toList_some, Option.toList_none, List.nil_append, List.cons_append, aR_setI, jk_setI, rv_setI, k13, x1, x2, x3, x4, x5, x6, x7, x8, x9, p0, p1, p2, p3, p4, r0, r1, r2, r3, r4, s1, s2, s3, s4, r0', r1', r2', r3', r4', s1', s2', s3', s4', hro, e0, c1, c2, c3, c4]
  exact l0
/-- three grids laid aside changed -/
def F3s (M s : Nat) (μ μ' : jM) : Prop := Fx (fun a => ∃ g, g < 3 ∧ SA (aA M s g) a) (fun a _ => ∃ g, g < 3 ∧ a = M + 330 + 5 * s + g) μ μ' ∧ jiv μ' (M + 30 + s) 3 = jiv μ (M + 30 + s) 3
/-- the grids of a place laid aside -/
def A3 (μ : jM) (M t : Nat) : Prop := ∀ g, g < 4 → GW μ (aA M t g)
theorem Fx.qs {S : Nat → Prop} (F : Fx S T μ μ') (hq : QS μ M) (hT : ∀ a j, T a j → SR M a j) : QS μ' M := hq.outx F (fun a j h _ _ => hT a j h)
end LAY
