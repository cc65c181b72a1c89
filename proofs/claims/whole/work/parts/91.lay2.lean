/-- the kinds of a grid's arrays -/
def GKk (μ : jM) (A : GA) : Prop := (jk μ (A.1 1) = 20 ∧ jl μ (A.1 1) = 8) ∧ (jk μ (A.1 2) = 20 ∧ jl μ (A.1 2) = 24) ∧ (jk μ (A.1 3) = 20 ∧ jl μ (A.1 3) = 24) ∧ (jk μ (A.1 5) = 20 ∧ jl μ (A.1 5) = 24) ∧ (jk μ (A.1 4) = 33 ∧ jl μ (A.1 4) = 24)
section LAY
variable {μ μ' ν : jM} {S S' : Nat → Prop} {T T' : Nat → Nat → Prop} {M g h t s n w d D i j k x y a b c : Nat} {A B C : GA}
theorem QS.gkm (h : QS μ M) (hg : g < 4) : GKk μ (mA M g) := by
  obtain ⟨a1, a2, a3, a4, a5, -⟩ := h.gk hg
  exact ⟨a1, a2, a3, a4, a5⟩
theorem QS.gka (h : QS μ M) (ht : t < 14) (hg : g < 4) : GKk μ (aA M t g) := by
  obtain ⟨a0, a1, a2, a3, a4, a5⟩ := h.ak ht hg
  exact ⟨a1, a2, a3, a4, a5⟩
theorem cp_0 {m : jM} {z : Nat} (e1 : jk m = jk μ) (e2 : jl m = jl μ) (hk : jk μ a = 20 ∧ jl μ a = z) (hk' : jk μ b = 20 ∧ jl μ b = z) (hz : z < 1000) : jcp m (.ref a) (N 0) (.ref b) (N 0) (N z) = some (jrowI m b (va_cpy (jiv m a) (jiv m b) 0 0 z)) :=
  cp_N (by rw [e1]; exact hk.1) (by rw [e1]; exact hk'.1) (by rw [e2, hk.2]; omega) (by rw [e2, hk'.2]; omega) (by rw [e2, hk.2]; omega) (by rw [e2, hk'.2]; omega)
/-- the steps of a grid's writing over -/
theorem gc_steps (hB : Aok B) (hd : Adis A B) (ha : GKk μ A) (hb : GKk μ B) : ∃ m2 m3 m4, jcp (jsetI μ (B.1 0) B.2 (jiv μ (A.1 0) A.2)) (.ref (A.1 1)) (N 0) (.ref (B.1 1)) (N 0) (N 8) = some m2 ∧ jcp m2 (.ref (A.1 2)) (N 0) (.ref (B.1 2)) (N 0) (N 24) = some m3 ∧ jcp m3 (.ref (A.1 3)) (N 0) (.ref (B.1 3)) (N 0) (N 24) = some m4 ∧ jcp m4 (.ref (A.1 5)) (N 0) (.ref (B.1 5)) (N 0) (N 24) = some (gcI μ A B) ∧ (jaR m2 = jaR μ ∧ jrv m2 = jrv μ ∧ jk m2 = jk μ) ∧ (jaR m3 = jaR μ ∧ jrv m3 = jrv μ ∧ jk m3 = jk μ) ∧ (jaR m4 = jaR μ ∧ jrv m4 = jrv μ ∧ jk m4 = jk μ) := by
  obtain ⟨a1, a2, a3, a5, -⟩ := ha
  obtain ⟨b1, b2, b3, b5, -⟩ := hb
  have nd := fun i j hi hj e => of_eq_false (hB.ne (i := i) (j := j) hi hj e)
  have q := fun i j hi hj => hd i j hi hj
  refine ⟨jrowI (jsetI μ (B.1 0) B.2 (jiv μ (A.1 0) A.2)) (B.1 1) (va_cpy (jiv μ (A.1 1)) (jiv μ (B.1 1)) 0 0 8), jrowI (jrowI (jsetI μ (B.1 0) B.2 (jiv μ (A.1 0) A.2)) (B.1 1) (va_cpy (jiv μ (A.1 1)) (jiv μ (B.1 1)) 0 0 8)) (B.1 2) (va_cpy (jiv μ (A.1 2)) (jiv μ (B.1 2)) 0 0 24), jrowI (jrowI (jrowI (jsetI μ (B.1 0) B.2 (jiv μ (A.1 0) A.2)) (B.1 1) (va_cpy (jiv μ (A.1 1)) (jiv μ (B.1 1)) 0 0 8)) (B.1 2) (va_cpy (jiv μ (A.1 2)) (jiv μ (B.1 2)) 0 0 24)) (B.1 3) (va_cpy (jiv μ (A.1 3)) (jiv μ (B.1 3)) 0 0 24), ?_, ?_, ?_, ?_, ⟨rfl, rfl, rfl⟩, ⟨rfl, rfl, rfl⟩, ⟨rfl, rfl, rfl⟩⟩
  · refine (cp_0 (by rfl) (by rfl) a1 b1 (by decide)).trans ?_
    rw [iv_setIn (q 1 0 (by decide) (by decide)), iv_setIn (nd 1 0 (by decide) (by decide) (by decide))]
  · refine (cp_0 (by rfl) (by rfl) a2 b2 (by decide)).trans ?_
    rw [iv_rowIn (q 2 1 (by decide) (by decide)), iv_setIn (q 2 0 (by decide) (by decide)), iv_rowIn (nd 2 1 (by decide) (by decide) (by decide)), iv_setIn (nd 2 0 (by decide) (by decide) (by decide))]
  · refine (cp_0 (by rfl) (by rfl) a3 b3 (by decide)).trans ?_
    rw [iv_rowIn (q 3 2 (by decide) (by decide)), iv_rowIn (q 3 1 (by decide) (by decide)), iv_setIn (q 3 0 (by decide) (by decide)), iv_rowIn (nd 3 2 (by decide) (by decide) (by decide)), iv_rowIn (nd 3 1 (by decide) (by decide) (by decide)), iv_setIn (nd 3 0 (by decide) (by decide) (by decide))]
  · refine (cp_0 (by rfl) (by rfl) a5 b5 (by decide)).trans ?_
    rw [iv_rowIn (q 5 3 (by decide) (by decide)), iv_rowIn (q 5 2 (by decide) (by decide)), iv_rowIn (q 5 1 (by decide) (by decide)), iv_setIn (q 5 0 (by decide) (by decide)), iv_rowIn (nd 5 3 (by decide) (by decide) (by decide)), iv_rowIn (nd 5 2 (by decide) (by decide) (by decide)), iv_rowIn (nd 5 1 (by decide) (by decide) (by decide)), iv_setIn (nd 5 0 (by decide) (by decide) (by decide))]
    rfl
/-- a formula's step of the loops -/
theorem gc_refs (hd : Adis A B) (ha : GKk μ A) (hb : GKk μ B) (hr : ∀ j b, jrv μ (A.1 4) j = some b → jk μ b = 20) (hn : n < 24) : jaR (cpF (gcI μ A B) A B n) (.ref (A.1 4)) (N n) = some (va_rf (jrv μ (A.1 4) n)) ∧ jsR (cpF (gcI μ A B) A B n) (.ref (B.1 4)) (N n) (va_rf (jrv μ (A.1 4) n)) = some (cpF (gcI μ A B) A B (n + 1)) := by
  have e1 : jrv (cpF (gcI μ A B) A B n) (A.1 4) = jrv μ (A.1 4) := cpF_A hd
  have h1 := refGet' (μ := cpF (gcI μ A B) A B n) (a := A.1 4) (i := n) (by rw [show jk (cpF (gcI μ A B) A B n) = jk μ from rfl, ha.2.2.2.2.1]; decide) ha.2.2.2.2.2 hn (by decide)
  rw [e1] at h1
  have h2 := refSet (μ := cpF (gcI μ A B) A B n) (a := B.1 4) (i := n) (r := jrv μ (A.1 4) n) hb.2.2.2.2.1 hb.2.2.2.2.2 hn (by decide) (hr n)
  refine ⟨h1, h2.trans ?_⟩
  exact congrArg some (cpF_succ (ν := gcI μ A B) (A := A) (B := B) (n := n))
theorem r_lay (hq : QS μ M) (ht : t < 14) (hg : g < 4) (hr : ∀ j b, jrv μ (M + 23 + g) j = some b → jk μ b = 20) : jC (d + 1) 191 [.ref M, .int (N t), .int (N g)] μ = some (none, cpF (gcI μ (mA M g) (aA M t g)) (mA M g) (aA M t g) 24) := by
  obtain ⟨f0, f1, f2, f3, f4, f5⟩ := hq.f
  obtain ⟨p0, p1, p2, p3, p4, p5⟩ := hq.af
  obtain ⟨a1, a2, a3, a4, a5, a6⟩ := hq.gr hg
  obtain ⟨r0, r1, r2, r3, r4, r5⟩ := hq.ar ht
  obtain ⟨s1, s2, s3, s4, s5⟩ := hq.ag ht hg
  have hd := (ma_dis (M := M) hg hg ht).1
  have hA := hq.gkm hg
  have hB := hq.gka ht hg
  have k13 := hq.k13
  have hro := hq.ro hg
  have e0 := ent_set (μ := μ) (v := jiv μ (M + 1) g) (hq.ak ht hg).1.1 (hq.ak ht hg).1.2 hg (by decide)
  obtain ⟨m2, m3, m4, c1, c2, c3, c4, ⟨x1, x2, x3⟩, ⟨x4, x5, x6⟩, x7, x8, x9⟩ := gc_steps (aA_ok (M := M) hg ht) hd hA hB
  have c1 : jcp (jsetI μ (M + 30 + t) g (jiv μ (M + 1) g)) (.ref (M + 3 + g)) (N 0) (.ref (M + 46 + 5 * t + g)) (N 0) (N 8) = some m2 := c1
  have c2 : jcp m2 (.ref (M + 8 + g)) (N 0) (.ref (M + 117 + 5 * t + g)) (N 0) (N 24) = some m3 := c2
  have c3 : jcp m3 (.ref (M + 13 + g)) (N 0) (.ref (M + 188 + 5 * t + g)) (N 0) (N 24) = some m4 := c3
  have c4 : jcp m4 (.ref (M + 18 + g)) (N 0) (.ref (M + 259 + 5 * t + g)) (N 0) (N 24) = some (gcI μ (mA M g) (aA M t g)) := c4
  have loop : ∀ (m n : Nat), n + m = 24 → jR (d + 1) 191 100 [.ref M, .int (N t), .int (N g), .int (N n)] [] (cpF (gcI μ (mA M g) (aA M t g)) (mA M g) (aA M t g) n) = some (none, cpF (gcI μ (mA M g) (aA M t g)) (mA M g) (aA M t g) 24) := by
    intro m
    induction m with
    | zero =>
      intro n hn
      have : n = 24 := by omega
      subst this
      rw [b191_100, if_neg (by decide)]
    | succ m ih =>
      intro n hn
      obtain ⟨z1, z2⟩ := gc_refs hd hA hB hr (show n < 24 by omega)
      have z1 : jaR (cpF (gcI μ (mA M g) (aA M t g)) (mA M g) (aA M t g) n) (.ref (M + 23 + g)) (N n) = some (va_rf (jrv μ (M + 23 + g) n)) := z1
      have z2 : jsR (cpF (gcI μ (mA M g) (aA M t g)) (mA M g) (aA M t g) n) (.ref (M + 330 + 5 * t + g)) (N n) (va_rf (jrv μ (M + 23 + g) n)) = some (cpF (gcI μ (mA M g) (aA M t g)) (mA M g) (aA M t g) (n + 1)) := z2
      have w : ∀ b y, b ≠ M + 330 + 5 * t + g → jaR (cpF (gcI μ (mA M g) (aA M t g)) (mA M g) (aA M t g) n) (.ref b) y = jaR μ (.ref b) y := fun b y hb => aR_cpF hb
      have w1 := w (M + 328) (N t) (by omega)
      have w2 := w (M + 329 + 5 * t) (N g) (by omega)
      have w3 := w (M + 22) (N g) (by omega)
      have y1 : jrv (cpF (gcI μ (mA M g) (aA M t g)) (mA M g) (aA M t g) n) M = jrv μ M := rv_rowRn (show ¬ M = M + 330 + 5 * t + g by omega)
      have y2 : jk (cpF (gcI μ (mA M g) (aA M t g)) (mA M g) (aA M t g) n) M = 13 := k13
      have := ih (n + 1) (by omega)
      generalize cpF (gcI μ (mA M g) (aA M t g)) (mA M g) (aA M t g) n = m1 at *
      rw [b191_100, if_pos (by show N n < N 24; rw [N_lt (by omega) (by decide)]; omega)]
      simp only [gI13, gR13, pI13, pR13, rv13, Option.bind_some, Option.bind_none, if_true, if_false, true_or, or_true, false_or, or_false, true_and, and_true, false_and, and_false, decide_eq_true_eq, decide_true, decide_false, eq_self, not_true_eq_false, not_false_eq_true, jfit0, N_lit, N_add, N_mul, NEG_eq, pl_none, pl_some, rf_some, rf_none, jun_ref, jun_null, ir_ref, ir_null, jr_rf, jun_rf, Option.toList_some, Option.toList_none, List.nil_append, List.cons_append, y1, y2, p5, f5, w1, w2, w3, r5, s5, a5, z1, z2]
      exact this
  rw [jC_run (by decide)]
  show jR (d + 1) 191 0 [.ref M, .int (N t), .int (N g), .retAddr 0] [] μ = _
  rw [b191_0]
  have l0 := loop 24 0 (by omega)
  rw [cpF_zero] at l0
  generalize cpF (gcI μ (mA M g) (aA M t g)) (mA M g) (aA M t g) 24 = fin at *
  generalize gcI μ (mA M g) (aA M t g) = m5 at *
  simp only [gI13, gR13, pI13, pR13, rv13, Option.bind_some, Option.bind_none, if_true, if_false, true_or, or_true, false_or, or_false, true_and, and_true, false_and, and_false, decide_eq_true_eq, decide_true, decide_false, eq_self, not_true_eq_false, not_false_eq_true, jfit0, N_lit, N_add, N_mul, NEG_eq, pl_none, pl_some, rf_some, rf_none, jun_ref, jun_null, ir_ref, ir_null, jr_rf, jun_rf, Option.toList_some, Option.toList_none, List.nil_append, List.cons_append, aR_setI, jk_setI, rv_setI, k13, x1, x2, x3, x4, x5, x6, x7, x8, x9, f0, f1, f2, f3, f4, p0, p1, p2, p3, p4, r0, r1, r2, r3, r4, s1, s2, s3, s4, a1, a2, a3, a4, hro, e0, c1, c2, c3, c4]
  exact l0
end LAY
