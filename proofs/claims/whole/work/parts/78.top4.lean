/-! THE CLASS's CALLS: merging, clashes, undone, images -/
theorem pRowC_congr {R R' : Nat → Nat × Nat} (h : ∀ c, c < 3 → R c = R' c) {gb gx gt : DG} {k : Int32} {c : Nat} (hc : c < 3) : pRowC R gb gx gt k c = pRowC R' gb gx gt k c := by
  unfold pRowC pCell
  rw [h c hc]
theorem pRowK_congr {R R' : Nat → Nat × Nat} (h : ∀ c, c < 3 → R c = R' c) {gb gx gt : DG} {k : Int32} : pRowK R gb gx gt k = pRowK R' gb gx gt k := by
  unfold pRowK pClc
  rw [h 0 (by decide), h 1 (by decide), h 2 (by decide)]
theorem pRows_congr {R R' : Nat → Nat × Nat} (h : ∀ c, c < 3 → R c = R' c) {gb gx gt W : DG} : ∀ n, pRows R gb gx gt W n = pRows R' gb gx gt W n
  | 0 => rfl
  | n + 1 => by
    unfold pRows
    rw [pRows_congr h n, pRowC_congr h (show 0 < 3 by decide), pRowC_congr h (show 1 < 3 by decide), pRowC_congr h (show 2 < 3 by decide)]
theorem pCls_congr {R R' : Nat → Nat × Nat} (h : ∀ c, c < 3 → R c = R' c) {gb gx gt W : DG} : ∀ n, pCls R gb gx gt W n = pCls R' gb gx gt W n
  | 0 => rfl
  | n + 1 => by
    unfold pCls
    rw [pCls_congr h n, pRowK_congr h]
theorem pMerge_congr {R R' : Nat → Nat × Nat} (h : ∀ c, c < 3 → R c = R' c) {gb gx gt : DG} : pMerge R gb gx gt = pMerge R' gb gx gt := by
  unfold pMerge
  congr 1
  funext W
  rw [pRows_congr h, pCls_congr h]
section TOP
variable {μ μ' μ'' : jM} {n w m v lo hi a b r q s D d X i k p : Nat} {σ σ' : SG} {x y z u g c : Int32}
/-- a merge in thought -/
theorem t_make {R : Nat → Nat × Nat} {gb gx gt : DG} {b x t r : Nat} (hb : BI μ X) (h : XR μ X σ) (hm : (m = X + 294 ∧ k = 6) ∨ (m = X + 306 ∧ k = 7)) (Gb : GV μ (X + 766) b) (Gx : GV μ (X + 766) x) (Gt : GV μ (X + 766) t) (eb : dG μ (xA b) = gb) (ex : dG μ (xA x) = gx) (et : dG μ (xA t) = gt) (Rr : RV μ r) (er : ∀ c, c < 3 → rL μ r c = R c) (zb : b + 6 ≤ m ∨ m + 12 ≤ b) (zx : x + 6 ≤ m ∨ m + 12 ≤ x) (zt : t + 6 ≤ m ∨ m + 12 ≤ t) (zr : r + 3 ≤ m ∨ m + 12 ≤ r) : ∃ μ', jC (d + 5) 112 [.ref m, .ref b, .ref x, .ref t, .ref r] μ = some (some (.int (mkR (pMerge R gb gx gt))), μ') ∧ XT μ X μ' σ 0 0 ∧ FK m μ μ' ∧ GV μ' (X + 766) (m + 1) ∧ CV μ' (m + 7) ∧ ∀ M, pMerge R gb gx gt = some M → dG μ' (xA (m + 1)) = M.1 ∧ cL μ' (m + 7) = M.2 := by
  subst eb ex et
  obtain ⟨B, hB, -, hA⟩ := hb.2.1
  have hmv : MV μ (X + 766) m := by
    rcases hm with ⟨rfl, rfl⟩ | ⟨rfl, rfl⟩
    · exact h 6 (by decide)
    · exact h 7 (by decide)
  have hmB : B ≤ m := by omega
  obtain ⟨μ', c1, F1, M1, v1⟩ := d_make (d := d) hmv hmB Gb Gx Gt Rr hA zb zx zt zr
  rw [pMerge_congr er] at c1 v1
  refine ⟨μ', c1, ?_, F1, M1.2.1.2.1, M1.2.1.1, v1⟩
  refine XR.one (k := k) hb h (by omega) (Fx.fa F1 hb.1) (fun a g => ?_) (fun a j g => ?_) ?_ ?_
  · have g : m ≤ a ∧ a < m + 12 := g
    rcases hm with ⟨rfl, rfl⟩ | ⟨rfl, rfl⟩
    · show X + 294 ≤ a ∧ a < X + 306; omega
    · show X + 306 ≤ a ∧ a < X + 318; omega
  · have g : a = m + 5 ∨ (a = m ∧ 2 ≤ j ∧ j < 6) := g
    rcases hm with ⟨rfl, rfl⟩ | ⟨rfl, rfl⟩
    · show X + 294 ≤ a ∧ a < X + 306; omega
    · show X + 306 ≤ a ∧ a < X + 318; omega
  · rcases hm with ⟨rfl, rfl⟩ | ⟨rfl, rfl⟩
    · exact M1.mv
    · exact M1.mv
  · exact fun i hi hne h => h
theorem x_clashes {l : List CL} (hb : BI μ X) (h : XR μ X σ) (F : FC (X + 289) μ μ') (hc : CV μ' (X + 289)) (e : cL μ' (X + 289) = l) : XT μ X μ' (scl σ l σ.2.2.2.2.1) 0 0 := by
  refine XR.one (k := 5) hb h (by decide) (Fx.fa F hb.1) (fun a g => ?_) (fun a j g => g.elim) ⟨hc, e⟩ (fun i hi hne h => by rcases (show i = 0 ∨ i = 1 ∨ i = 2 ∨ i = 3 ∨ i = 4 ∨ i = 5 ∨ i = 6 ∨ i = 7 ∨ i = 8 ∨ i = 9 ∨ i = 10 ∨ i = 11 ∨ i = 12 by omega) with rfl | rfl | rfl | rfl | rfl | rfl | rfl | rfl | rfl | rfl | rfl | rfl | rfl <;> first | exact absurd rfl hne | exact h)
  have g : X + 289 ≤ a ∧ a < X + 289 + 5 := g
  show X + 289 ≤ a ∧ a < X + 294; omega
theorem x_flag {b : Bool} (hb : BI μ X) (h : XR μ X σ) : XT μ X (jsetI μ X 7 (bN b)) (scl σ σ.2.2.2.1 b) 0 0 := by
  have F2 : Fx (fun a => a = X) (fun _ _ => False) μ (jsetI μ X 7 (bN b)) := by
    refine Fx.setI Fx.refl ?_
    exact (rfl : X = X)
  refine XR.one (k := 0) hb h (by decide) (Fx.fa F2 hb.1) (fun a g => ?_) (fun a j g => g.elim) ?_ (fun i hi hne h => by rcases (show i = 0 ∨ i = 1 ∨ i = 2 ∨ i = 3 ∨ i = 4 ∨ i = 5 ∨ i = 6 ∨ i = 7 ∨ i = 8 ∨ i = 9 ∨ i = 10 ∨ i = 11 ∨ i = 12 by omega) with rfl | rfl | rfl | rfl | rfl | rfl | rfl | rfl | rfl | rfl | rfl | rfl | rfl <;> first | exact absurd rfl hne | exact h)
  · have g : a = X := g
    show X + 0 ≤ a ∧ a < X + 1; omega
  · obtain ⟨g1, g2, g3⟩ := h 0 (by decide)
    refine ⟨g1, ?_, ?_⟩
    · refine Eq.trans ?_ g2
      simp [iv_setI]
    · simp [iv_setI]; rfl
theorem XR.br (h : XR μ X σ) : jrv μ (X + 1) 0 = some (gA X 0) ∧ jrv μ (X + 1) 1 = some (gA X 1) ∧ jrv μ (X + 1) 2 = some (gA X 2) ∧ jrv μ (X + 1) 3 = some (gA X 3) ∧ jrv μ (X + 1) 4 = some (X + 26) := by
  obtain ⟨a0, a1, a2, a3, a4, a5⟩ := h.bb.2.1.2.1
  exact ⟨a0, a1, a2, a3, a4⟩
theorem XR.mt (h : XR μ X σ) : jk μ (X + 294) = 7 ∧ jrv μ (X + 294) 0 = some (X + 295) ∧ jrv μ (X + 294) 1 = some (X + 301) ∧ jk μ (X + 306) = 7 ∧ jrv μ (X + 306) 0 = some (X + 307) ∧ jrv μ (X + 306) 1 = some (X + 313) := by
  obtain ⟨-, a1, a2, a3, -⟩ := h 6 (by decide)
  obtain ⟨-, b1, b2, b3, -⟩ := h 7 (by decide)
  exact ⟨a1, a2, a3, b1, b2, b3⟩
theorem XR.un (h : XR μ X σ) : jC d 79 [.ref (X + 289)] μ = some (some (.int (N (unsN σ.2.2.2.1))), μ) := by
  have := d_unsettled (d := d) (h 5 (by decide)).1
  rw [(h 5 (by decide)).2] at this
  exact this
theorem XR.cn (h : XR μ X σ) : jiv μ (X + 289) 0 = N σ.2.2.2.1.length ∧ σ.2.2.2.1.length ≤ 48 := by
  obtain ⟨a1, a2⟩ := h 5 (by decide)
  have e : cN μ (X + 289) = σ.2.2.2.1.length := by rw [← a2, len_cL]
  rw [← e]
  exact ⟨a1.2.2.1, a1.2.2.2⟩
theorem t_merge (hb : BI μ X) (h : XR μ X σ) : OP (d + 6) 35 [.ref X] μ X (o_merge σ) 0 0 := by
  obtain ⟨k12, r0, r1, r3, r4, r5, r6, r8, r9, -⟩ := h.s0
  obtain ⟨q0, q1, q2, q3, q4⟩ := h.br
  obtain ⟨m1, m2, m3, -⟩ := h.mt
  unfold OP
  rw [jC_run (by decide)]
  show ∃ μ', jR (d + 6) 35 0 [.ref X] [] μ = _ ∧ _
  obtain ⟨μ1, c1, T1, F1, G1, V1, v1⟩ := t_make (d := d) (m := X + 294) (k := 6) hb h (Or.inl ⟨rfl, rfl⟩) (h.gg (i := 0) (by decide)).1 (h.gg (i := 1) (by decide)).1 (h.gg (i := 2) (by decide)).1 (h.gg (i := 0) (by decide)).2 (h.gg (i := 1) (by decide)).2 (h.gg (i := 2) (by decide)).2 h.ru.1 h.ru.2.1 (by unfold gA; omega) (by unfold gA; omega) (by unfold gA; omega) (by omega)
  have h1 := T1.2.2
  obtain ⟨j12, s0, s1, s3, s4, s5, s6, s8, s9, -⟩ := h1.s0
  obtain ⟨t0, t1, t2, t3, t4⟩ := h1.br
  obtain ⟨u1, u2, u3, -⟩ := h1.mt
  rw [b35_0]
  simp only [gI12, gR12, pI12, pR12, rv12, gI3, gR3, pI3, pR3, rv3, gI7, gR7, pI7, pR7, rv7, aI_eq, aB_eq, aR_eq, sI_eq, sB_eq, sR_eq, Option.bind_some, Option.bind_none, if_true, if_false, true_or, or_true, false_or, or_false, true_and, and_true, false_and, and_false, decide_eq_true_eq, decide_true, decide_false, eq_self, not_true_eq_false, not_false_eq_true, jfit0, N_lit, N_add, N_mul, NEG_eq, pl_none, pl_some, rf_some, rf_none, jun_ref, jun_null, ir_ref, ir_null, jr_rf, jun_rf, Option.toList_some, Option.toList_none, List.nil_append, List.cons_append, k12, r0, r8, h.k3, q0, q1, q2, q4, m1, c1]
  rw [b35_35]
  unfold o_merge
  cases e : pMerge σ.1.2.1 (σ.1.1 0) (σ.1.1 1) (σ.1.1 2) with
  | none =>
    refine ⟨μ1, ?_, T1⟩
    simp only [mkR, N_lit, if_true]
  | some W =>
    obtain ⟨w1, w2⟩ := v1 W e
    have w1 : dG μ1 (xA (X + 295)) = W.1 := w1
    have w2 : cL μ1 (X + 301) = W.2 := w2
    have G1 : GV μ1 (X + 766) (X + 295) := G1
    obtain ⟨hg3, -⟩ := h1.gg (i := 3) (by decide)
    obtain ⟨μ2, c2, F2, G2, d2⟩ := d_become (d := d + 4) (g := gA X 3) hg3.2.1 hg3.1 G1 (by unfold gA; omega)
    have T2 := x_setG T1.2.1 h1 (by decide) F2 G2 d2
    rw [w1] at T2
    have h2 := T2.2.2
    obtain ⟨l12, z0, z1, z3, z4, z5, z6, z8, z9, -⟩ := h2.s0
    obtain ⟨y1, y2, y3, -⟩ := h2.mt
    obtain ⟨V2, w3⟩ := CV.out (a := X + 301) V1 F2 (fun a g => by
      have g : gA X 3 ≤ a ∧ a < gA X 3 + 6 := g
      unfold gA at g; omega) (fun a j g => by
      have g : a = gA X 3 + 4 := g
      unfold gA at g; omega)
    obtain ⟨μ3, c3, F3, V3, d3⟩ := d_cbecome (d := d + 4) (a := X + 289) (b := X + 301) (h2 5 (by decide)).1 V2 (by omega)
    have T3 := x_clashes T2.2.1 h2 F3 V3 d3
    rw [w3, w2] at T3
    have h3 := T3.2.2
    obtain ⟨o12, p0, p1, p3, p4, p5, p6, -⟩ := h3.s0
    have T4 := x_flag (b := true) T3.2.1 h3
    have h4 := T4.2.2
    obtain ⟨g12, e0, e1, e3, e4, e5, e6, -⟩ := h4.s0
    have n4 := h4.cn.1
    refine ⟨jsetI μ3 X 7 (bN true), ?_, (T1.trans T2).trans (T3.trans T4)⟩
    simp only [mkR, N_lit, n10, if_false, gI12, gR12, pI12, pR12, rv12, gI3, gR3, pI3, pR3, rv3, gI7, gR7, pI7, pR7, rv7, gI6, gR6, pI6, pR6, rv6, aI_eq, aB_eq, aR_eq, sI_eq, sB_eq, sR_eq, Option.bind_some, Option.bind_none, if_true, if_false, true_or, or_true, false_or, or_false, true_and, and_true, false_and, and_false, decide_eq_true_eq, decide_true, decide_false, eq_self, not_true_eq_false, not_false_eq_true, jfit0, N_lit, N_add, N_mul, NEG_eq, pl_none, pl_some, rf_some, rf_none, jun_ref, jun_null, ir_ref, ir_null, jr_rf, jun_rf, Option.toList_some, Option.toList_none, List.nil_append, List.cons_append, j12, s0, s8, h1.k3, t3, u1, u2, h1.k6 (i := 3) (by decide), c2]
    rw [b35_58]
    simp only [gI12, gR12, pI12, pR12, rv12, gI7, gR7, pI7, pR7, rv7, gI4, gR4, pI4, pR4, rv4, aI_eq, aB_eq, aR_eq, sI_eq, sB_eq, sR_eq, Option.bind_some, Option.bind_none, if_true, if_false, true_or, or_true, false_or, or_false, true_and, and_true, false_and, and_false, decide_eq_true_eq, decide_true, decide_false, eq_self, not_true_eq_false, not_false_eq_true, jfit0, N_lit, N_add, N_mul, NEG_eq, pl_none, pl_some, rf_some, rf_none, jun_ref, jun_null, ir_ref, ir_null, jr_rf, jun_rf, Option.toList_some, Option.toList_none, List.nil_append, List.cons_append, l12, z6, z8, y1, y3, h2.k4, c3]
    rw [b35_72]
    rw [bN_true] at n4 h4 g12 e6
    simp only [gI12, gR12, pI12, pR12, rv12, gI4, gR4, pI4, pR4, rv4, aI_eq, aB_eq, aR_eq, sI_eq, sB_eq, sR_eq, Option.bind_some, Option.bind_none, if_true, if_false, true_or, or_true, false_or, or_false, true_and, and_true, false_and, and_false, decide_eq_true_eq, decide_true, decide_false, eq_self, not_true_eq_false, not_false_eq_true, jfit0, N_lit, N_add, N_mul, NEG_eq, pl_none, pl_some, rf_some, rf_none, jun_ref, jun_null, ir_ref, ir_null, jr_rf, jun_rf, Option.toList_some, Option.toList_none, List.nil_append, List.cons_append, o12, jfit2_1, g12, e6, h4.k4, n4]
    have : (W.2.map uns0).length = W.2.length := List.length_map ..
    show some (some (Value.int (N (W.2.map uns0).length)), _) = _
    rw [this]; rfl
theorem t_clash (hb : BI μ X) (h : XR μ X σ) : OP (d + 1) 36 [.ref X, .int x, .int y] μ X (o_clash σ x y) 0 0 := by
  obtain ⟨k12, r0, r1, r3, r4, r5, r6, -⟩ := h.s0
  obtain ⟨hcv, hcl⟩ := h 5 (by decide)
  have hn := h.cn
  unfold OP
  rw [jC_run (by decide)]
  show ∃ μ', jR (d + 1) 36 0 [.ref X, .int x, .int y] [] μ = _ ∧ _
  rw [b36_0]
  simp only [x_isIn, aI_eq, aB_eq, aR_eq, sI_eq, sB_eq, sR_eq, Option.bind_some, Option.bind_none, if_true, if_false, true_or, or_true, false_or, or_false, true_and, and_true, false_and, and_false, decide_eq_true_eq, decide_true, decide_false, eq_self, not_true_eq_false, not_false_eq_true, jfit0, N_lit, N_add, N_mul, NEG_eq, pl_none, pl_some, rf_some, rf_none, jun_ref, jun_null, ir_ref, ir_null, jr_rf, jun_rf, Option.toList_some, Option.toList_none, List.nil_append, List.cons_append]
  rw [b36_6]
  unfold o_clash
  by_cases e3 : y < N 0 ∨ N 3 < y
  · refine ⟨μ, ?_, ?_⟩
    · rw [pN_neg (fun g => e3.elim g.1 g.2), if_pos (by rfl)]
      simp only [if_pos e3]; rfl
    · simp only [if_pos e3]; exact XT.refl hb h
  · rw [pN_pos ⟨fun g => e3 (Or.inl g), fun g => e3 (Or.inr g)⟩]
    have c1 := d_has (d := d) hcv x
    have hcl : cL μ (X + 289) = σ.2.2.2.1 := hcl
    rw [hcl] at c1
    simp only [if_neg e3, N_lit, n10, if_false, gI12, gR12, pI12, pR12, rv12, gI4, gR4, pI4, pR4, rv4, aI_eq, aB_eq, aR_eq, sI_eq, sB_eq, sR_eq, Option.bind_some, Option.bind_none, if_true, if_false, true_or, or_true, false_or, or_false, true_and, and_true, false_and, and_false, decide_eq_true_eq, decide_true, decide_false, eq_self, not_true_eq_false, not_false_eq_true, jfit0, N_lit, N_add, N_mul, NEG_eq, pl_none, pl_some, rf_some, rf_none, jun_ref, jun_null, ir_ref, ir_null, jr_rf, jun_rf, Option.toList_some, Option.toList_none, List.nil_append, List.cons_append, k12, r6, h.k4, c1]
    rw [b36_20]
    cases e : ix σ.2.2.2.1.length x with
    | none =>
      refine ⟨μ, ?_, XT.refl hb h⟩
      have hx := ix_none (by omega) e
      rw [pN_neg (fun g => hx.elim g.1 (fun q => q g.2)), if_pos (by rfl)]; rfl
    | some i =>
      obtain ⟨rfl, hi⟩ := ix_some (by omega) e
      have hget : σ.2.2.2.1[i]? = some (jiv μ (X + 290) i, jiv μ (X + 291) i, jiv μ (X + 292) i, jiv μ (X + 293) i) := by
        rw [← hcl]
        exact cL_get (by rw [← len_cL, hcl]; exact hi)
      obtain ⟨⟨v0, v1, l1, v2, l2, v3, l3, v4, l4⟩, ⟨s1, s2, s3, s4⟩, -⟩ := hcv
      have i48 : i < 48 := by omega
      have g1 := ent_get (μ := μ) v1 l1 i48 (by decide)
      have g2 := ent_get (μ := μ) v2 l2 i48 (by decide)
      have g3 := ent_get (μ := μ) v3 l3 i48 (by decide)
      have g4 := ent_get (μ := μ) v4 l4 i48 (by decide)
      rw [pN_pos ⟨by rw [N_lt (by omega) (by decide)]; omega, by rw [N_lt (by omega) (by omega)]; exact hi⟩]
      simp only [N_lit, n10, if_false, gI12, gR12, pI12, pR12, rv12, gI4, gR4, pI4, pR4, rv4, Option.bind_some, Option.bind_none, if_true, if_false, true_or, or_true, false_or, or_false, true_and, and_true, false_and, and_false, decide_eq_true_eq, decide_true, decide_false, eq_self, not_true_eq_false, not_false_eq_true, jfit0, N_lit, N_add, N_mul, NEG_eq, pl_none, pl_some, rf_some, rf_none, jun_ref, jun_null, ir_ref, ir_null, jr_rf, jun_rf, Option.toList_some, Option.toList_none, List.nil_append, List.cons_append, k12, r6, h.k4, s1, s2, s3, s4, g1, g2, g3, g4, hget, Option.bind_some]
      refine ⟨μ, ?_, XT.refl hb h⟩
      by_cases y0 : y = N 0
      · simp only [if_pos y0]
      · simp only [if_neg y0]
        by_cases y1 : y = N 1
        · simp only [if_pos y1]
        · simp only [if_neg y1]
          by_cases y2 : y = N 2
          · simp only [if_pos y2]
          · simp only [if_neg y2]
theorem t_take (hb : BI μ X) (h : XR μ X σ) : OP (d + 4) 38 [.ref X] μ X (o_take σ) 0 0 := by
  obtain ⟨k12, r0, r1, r3, r4, r5, r6, -⟩ := h.s0
  obtain ⟨-, -, hf⟩ := h 0 (by decide)
  have hcn := h.cn
  unfold OP
  rw [jC_run (by decide)]
  show ∃ μ', jR (d + 4) 38 0 [.ref X] [] μ = _ ∧ _
  rw [b38_0]
  simp only [gI12, gR12, pI12, pR12, rv12, gI4, gR4, pI4, pR4, rv4, aI_eq, aB_eq, aR_eq, sI_eq, sB_eq, sR_eq, Option.bind_some, Option.bind_none, if_true, if_false, true_or, or_true, false_or, or_false, true_and, and_true, false_and, and_false, decide_eq_true_eq, decide_true, decide_false, eq_self, not_true_eq_false, not_false_eq_true, jfit0, N_lit, N_add, N_mul, NEG_eq, pl_none, pl_some, rf_some, rf_none, jun_ref, jun_null, ir_ref, ir_null, jr_rf, jun_rf, Option.toList_some, Option.toList_none, List.nil_append, List.cons_append, k12, hf, bN_0]
  unfold o_take
  cases em : σ.2.2.2.2.1 with
  | false =>
    refine ⟨μ, ?_, ?_⟩
    · simp only [if_true, b38_17, N_lit, Bool.false_eq_true, false_and, if_false]
    · simp only [Bool.false_eq_true, false_and, if_false]; exact XT.refl hb h
  | true =>
    have hul : unsN σ.2.2.2.1 ≤ σ.2.2.2.1.length := List.countP_le_length
    simp only [Bool.true_eq_false, if_false, gI12, gR12, pI12, pR12, rv12, gI4, gR4, pI4, pR4, rv4, aI_eq, aB_eq, aR_eq, sI_eq, sB_eq, sR_eq, Option.bind_some, Option.bind_none, if_true, if_false, true_or, or_true, false_or, or_false, true_and, and_true, false_and, and_false, decide_eq_true_eq, decide_true, decide_false, eq_self, not_true_eq_false, not_false_eq_true, jfit0, N_lit, N_add, N_mul, NEG_eq, pl_none, pl_some, rf_some, rf_none, jun_ref, jun_null, ir_ref, ir_null, jr_rf, jun_rf, Option.toList_some, Option.toList_none, List.nil_append, List.cons_append, k12, r6, h.k4, h.un]
    rw [b38_14]
    simp only [N_lit, N_lt (show 0 < 2147483648 by decide) (show unsN σ.2.2.2.1 < 2147483648 by omega)]
    by_cases e0 : unsN σ.2.2.2.1 = 0
    · simp only [e0, Nat.lt_irrefl, if_false, if_true, and_self]
      obtain ⟨μ1, c1, T1⟩ := t_begin (d := d) hb h
      have h1 := T1.2.2
      -- one after the other
      have step : ∀ (μ0 : jM) (σ0 : SG) (i : Nat), i < 3 → BI μ0 X → XR μ0 X σ0 → ∃ μ', jC (d + 3) 90 [.ref (gA X i), .ref (gA X 3)] μ0 = some (none, μ') ∧ XT μ0 X μ' (stg σ0 i (σ0.1.1 3)) 0 0 := by
        intro μ0 σ0 i hi hb0 h0
        obtain ⟨hg1, -⟩ := h0.gg (i := i) (by omega)
        obtain ⟨ho1, hdo⟩ := h0.gg (i := 3) (by decide)
        obtain ⟨μ2, c2, F2, G2, d2⟩ := d_become (d := d + 2) (g := gA X i) hg1.2.1 hg1.1 ho1 (by unfold gA; omega)
        have T2 := x_setG hb0 h0 (by omega) F2 G2 d2
        rw [hdo] at T2
        exact ⟨μ2, c2, T2⟩
      obtain ⟨μ2, c2, T2⟩ := step μ1 (chg σ) 0 (by decide) T1.2.1 h1
      have h2 := T2.2.2
      obtain ⟨μ3, c3, T3⟩ := step μ2 _ 1 (by decide) T2.2.1 h2
      have h3 := T3.2.2
      obtain ⟨μ4, c4, T4⟩ := step μ3 _ 2 (by decide) T3.2.1 h3
      have h4 := T4.2.2
      obtain ⟨i12, i0, -⟩ := h1.s0
      obtain ⟨j12, j0, -⟩ := h2.s0
      obtain ⟨l12, l0, -⟩ := h3.s0
      obtain ⟨o12, o0, -⟩ := h4.s0
      obtain ⟨u0, u1, u2, u3, -⟩ := h1.br
      obtain ⟨v0, v1, v2, v3, -⟩ := h2.br
      obtain ⟨w0, w1, w2, w3, -⟩ := h3.br
      obtain ⟨y0, y1, y2, y3, -⟩ := h4.br
      have n4 := h4.nn (i := 3) (by decide)
      refine ⟨μ4, ?_, (T1.trans T2).trans (T3.trans T4)⟩
      simp only [gI12, gR12, pI12, pR12, rv12, aI_eq, aB_eq, aR_eq, sI_eq, sB_eq, sR_eq, Option.bind_some, Option.bind_none, if_true, if_false, true_or, or_true, false_or, or_false, true_and, and_true, false_and, and_false, decide_eq_true_eq, decide_true, decide_false, eq_self, not_true_eq_false, not_false_eq_true, jfit0, N_lit, N_add, N_mul, NEG_eq, pl_none, pl_some, rf_some, rf_none, jun_ref, jun_null, ir_ref, ir_null, jr_rf, jun_rf, Option.toList_some, Option.toList_none, List.nil_append, List.cons_append, k12, c1]
      rw [b38_24]
      simp only [gI12, gR12, pI12, pR12, rv12, gI3, gR3, pI3, pR3, rv3, gI6, gR6, pI6, pR6, rv6, aI_eq, aB_eq, aR_eq, sI_eq, sB_eq, sR_eq, Option.bind_some, Option.bind_none, if_true, if_false, true_or, or_true, false_or, or_false, true_and, and_true, false_and, and_false, decide_eq_true_eq, decide_true, decide_false, eq_self, not_true_eq_false, not_false_eq_true, jfit0, N_lit, N_add, N_mul, NEG_eq, pl_none, pl_some, rf_some, rf_none, jun_ref, jun_null, ir_ref, ir_null, jr_rf, jun_rf, Option.toList_some, Option.toList_none, List.nil_append, List.cons_append, i12, i0, h1.k3, u0, u3, h1.k6 (i := 0) (by decide), c2]
      rw [b38_41]
      simp only [gI12, gR12, pI12, pR12, rv12, gI3, gR3, pI3, pR3, rv3, gI6, gR6, pI6, pR6, rv6, aI_eq, aB_eq, aR_eq, sI_eq, sB_eq, sR_eq, Option.bind_some, Option.bind_none, if_true, if_false, true_or, or_true, false_or, or_false, true_and, and_true, false_and, and_false, decide_eq_true_eq, decide_true, decide_false, eq_self, not_true_eq_false, not_false_eq_true, jfit0, N_lit, N_add, N_mul, NEG_eq, pl_none, pl_some, rf_some, rf_none, jun_ref, jun_null, ir_ref, ir_null, jr_rf, jun_rf, Option.toList_some, Option.toList_none, List.nil_append, List.cons_append, j12, j0, h2.k3, v1, v3, h2.k6 (i := 1) (by decide), c3]
      rw [b38_58]
      simp only [gI12, gR12, pI12, pR12, rv12, gI3, gR3, pI3, pR3, rv3, gI6, gR6, pI6, pR6, rv6, aI_eq, aB_eq, aR_eq, sI_eq, sB_eq, sR_eq, Option.bind_some, Option.bind_none, if_true, if_false, true_or, or_true, false_or, or_false, true_and, and_true, false_and, and_false, decide_eq_true_eq, decide_true, decide_false, eq_self, not_true_eq_false, not_false_eq_true, jfit0, N_lit, N_add, N_mul, NEG_eq, pl_none, pl_some, rf_some, rf_none, jun_ref, jun_null, ir_ref, ir_null, jr_rf, jun_rf, Option.toList_some, Option.toList_none, List.nil_append, List.cons_append, l12, l0, h3.k3, w2, w3, h3.k6 (i := 2) (by decide), c4]
      rw [b38_75]
      simp only [gI12, gR12, pI12, pR12, rv12, gI3, gR3, pI3, pR3, rv3, gI6, gR6, pI6, pR6, rv6, aI_eq, aB_eq, aR_eq, sI_eq, sB_eq, sR_eq, Option.bind_some, Option.bind_none, if_true, if_false, true_or, or_true, false_or, or_false, true_and, and_true, false_and, and_false, decide_eq_true_eq, decide_true, decide_false, eq_self, not_true_eq_false, not_false_eq_true, jfit0, N_lit, N_add, N_mul, NEG_eq, pl_none, pl_some, rf_some, rf_none, jun_ref, jun_null, ir_ref, ir_null, jr_rf, jun_rf, Option.toList_some, Option.toList_none, List.nil_append, List.cons_append, o12, o0, h4.k3, y3, h4.k6 (i := 3) (by decide), n4]
      rfl
    · refine ⟨μ, ?_, ?_⟩
      · rw [if_pos (by omega), b38_17]
        simp only [e0, and_false, if_false]; rfl
      · simp only [e0, and_false, if_false]; exact XT.refl hb h
theorem t_undo (hb : BI μ X) (h : XR μ X σ) : OP (d + 3) 39 [.ref X] μ X (o_undo σ) 0 0 := by
  obtain ⟨k12, r0, -⟩ := h.s0
  unfold OP
  rw [jC_run (by decide)]
  show ∃ μ', jR (d + 3) 39 0 [.ref X] [] μ = _ ∧ _
  rw [b39_0]
  obtain ⟨u1, u2⟩ := d_undoLatest (d := d) h.bb
  unfold o_undo
  cases e : σ.1.2.2 with
  | nil =>
    refine ⟨μ, ?_, XT.refl hb h⟩
    simp only [gI12, gR12, pI12, pR12, rv12, gI3, gR3, pI3, pR3, rv3, aI_eq, aB_eq, aR_eq, sI_eq, sB_eq, sR_eq, Option.bind_some, Option.bind_none, if_true, if_false, true_or, or_true, false_or, or_false, true_and, and_true, false_and, and_false, decide_eq_true_eq, decide_true, decide_false, eq_self, not_true_eq_false, not_false_eq_true, jfit0, N_lit, N_add, N_mul, NEG_eq, pl_none, pl_some, rf_some, rf_none, jun_ref, jun_null, ir_ref, ir_null, jr_rf, jun_rf, Option.toList_some, Option.toList_none, List.nil_append, List.cons_append, k12, r0, h.k3, u1 e]
    rw [b39_7]
    simp only [N_lit, if_true]
  | cons hd tl =>
    obtain ⟨μ1, c1, F1, B1⟩ := u2 hd tl e
    have T1 : XT μ X μ1 ((fun g => if g < 3 then hd g else σ.1.1 g, σ.1.2.1, tl), σ.2) 0 0 := by
      refine XR.one (k := 1) hb h (by decide) (Fx.fa F1 hb.1) (fun a g => ?_) (fun a j g => ?_) B1 (fun i hi hne h => by rcases (show i = 0 ∨ i = 1 ∨ i = 2 ∨ i = 3 ∨ i = 4 ∨ i = 5 ∨ i = 6 ∨ i = 7 ∨ i = 8 ∨ i = 9 ∨ i = 10 ∨ i = 11 ∨ i = 12 by omega) with rfl | rfl | rfl | rfl | rfl | rfl | rfl | rfl | rfl | rfl | rfl | rfl | rfl <;> first | exact absurd rfl hne | exact h)
      · have g : X + 1 ≤ a ∧ a < X + 1 + 137 := g
        show X + 1 ≤ a ∧ a < X + 138; omega
      · have g : X + 1 ≤ a ∧ a < X + 1 + 137 := g
        show X + 1 ≤ a ∧ a < X + 138; omega
    have h1 := T1.2.2
    obtain ⟨i12, i0, -⟩ := h1.s0
    obtain ⟨μ2, c2, T2⟩ := t_forget (d := d + 1) T1.2.1 h1
    have h2 := T2.2.2
    obtain ⟨j12, j0, -⟩ := h2.s0
    obtain ⟨-, -, -, -, -, nc, -, -, n7, -⟩ := h2.bb
    refine ⟨μ2, ?_, T1.trans T2⟩
    simp only [gI12, gR12, pI12, pR12, rv12, gI3, gR3, pI3, pR3, rv3, aI_eq, aB_eq, aR_eq, sI_eq, sB_eq, sR_eq, Option.bind_some, Option.bind_none, if_true, if_false, true_or, or_true, false_or, or_false, true_and, and_true, false_and, and_false, decide_eq_true_eq, decide_true, decide_false, eq_self, not_true_eq_false, not_false_eq_true, jfit0, N_lit, N_add, N_mul, NEG_eq, pl_none, pl_some, rf_some, rf_none, jun_ref, jun_null, ir_ref, ir_null, jr_rf, jun_rf, Option.toList_some, Option.toList_none, List.nil_append, List.cons_append, k12, r0, h.k3, c1]
    rw [b39_7]
    simp only [N_lit, n10, if_false, gI12, gR12, pI12, pR12, rv12, aI_eq, aB_eq, aR_eq, sI_eq, sB_eq, sR_eq, Option.bind_some, Option.bind_none, if_true, if_false, true_or, or_true, false_or, or_false, true_and, and_true, false_and, and_false, decide_eq_true_eq, decide_true, decide_false, eq_self, not_true_eq_false, not_false_eq_true, jfit0, N_lit, N_add, N_mul, NEG_eq, pl_none, pl_some, rf_some, rf_none, jun_ref, jun_null, ir_ref, ir_null, jr_rf, jun_rf, Option.toList_some, Option.toList_none, List.nil_append, List.cons_append, i12, c2]
    rw [b39_17]
    simp only [gI12, gR12, pI12, pR12, rv12, gI3, gR3, pI3, pR3, rv3, aI_eq, aB_eq, aR_eq, sI_eq, sB_eq, sR_eq, Option.bind_some, Option.bind_none, if_true, if_false, true_or, or_true, false_or, or_false, true_and, and_true, false_and, and_false, decide_eq_true_eq, decide_true, decide_false, eq_self, not_true_eq_false, not_false_eq_true, jfit0, N_lit, N_add, N_mul, NEG_eq, pl_none, pl_some, rf_some, rf_none, jun_ref, jun_null, ir_ref, ir_null, jr_rf, jun_rf, Option.toList_some, Option.toList_none, List.nil_append, List.cons_append, j12, j0, h2.k3, n7]
    rfl
theorem t_image (hb : BI μ X) (h : XR μ X σ) : OP (d + 3) 52 [.ref X] μ X (o_image σ) 0 0 := by
  obtain ⟨k12, r0, r1, -⟩ := h.s0
  obtain ⟨s', hs', -⟩ := h 2 (by decide)
  unfold OP
  rw [jC_run (by decide)]
  show ∃ μ', jR (d + 3) 52 0 [.ref X] [] μ = _ ∧ _
  rw [b52_0]
  obtain ⟨μ1, c1, F1, B1⟩ := d_boardBecome (d := d) hs' h.bb (by omega)
  have F2 : Fx (fun a => a = X) (fun _ _ => False) μ1 (jsetI μ1 X 2 (N 1)) := by
    refine Fx.setI Fx.refl ?_
    exact (rfl : X = X)
  have k138 : jk μ (X + 138) = 3 := hs'.2.1.1.1
  -- the image first, as a part
  have F12 : Fx (fun a => X + 138 ≤ a ∧ a < X + 138 + 137) (fun a _ => X + 138 ≤ a ∧ a < X + 138 + 137) μ μ1 := F1
  have T1 : XT μ X μ1 (σ.1, (if σ.2.1.isSome = true then some σ.1 else none), σ.2.2) 0 0 := by
    refine XR.one (k := 2) hb h (by decide) (Fx.fa F12 hb.1) (fun a g => ?_) (fun a j g => ?_) ⟨σ.1, B1, fun b hb => ?_⟩ ?_
    · have g : X + 138 ≤ a ∧ a < X + 138 + 137 := g
      show X + 138 ≤ a ∧ a < X + 275; omega
    · have g : X + 138 ≤ a ∧ a < X + 138 + 137 := g
      show X + 138 ≤ a ∧ a < X + 275; omega
    · have hb : (if σ.2.1.isSome = true then some σ.1 else none) = some b := hb
      split at hb
      · cases hb; rfl
      · cases hb
    · intro i hi hne h
      rcases (show i = 0 ∨ i = 1 ∨ i = 2 ∨ i = 3 ∨ i = 4 ∨ i = 5 ∨ i = 6 ∨ i = 7 ∨ i = 8 ∨ i = 9 ∨ i = 10 ∨ i = 11 ∨ i = 12 by omega) with rfl | rfl | rfl | rfl | rfl | rfl | rfl | rfl | rfl | rfl | rfl | rfl | rfl
      · obtain ⟨a1, a2, a3⟩ := h
        refine ⟨a1, a2.trans ?_, a3⟩
        show bN σ.2.1.isSome = bN (if σ.2.1.isSome = true then some σ.1 else none).isSome
        cases σ.2.1 <;> rfl
      · exact h
      · exact absurd rfl hne
      all_goals exact h
  have h1 := T1.2.2
  obtain ⟨i12, i0, -⟩ := h1.s0
  have T2 : XT μ1 X (jsetI μ1 X 2 (N 1)) (σ.1, some σ.1, σ.2.2) 0 0 := by
    refine XR.one (k := 0) T1.2.1 h1 (by decide) (Fx.fa F2 T1.2.1.1) (fun a g => ?_) (fun a j g => g.elim) ?_ ?_
    · have g : a = X := g
      show X + 0 ≤ a ∧ a < X + 1; omega
    · obtain ⟨g1, g2, g3⟩ := h1 0 (by decide)
      refine ⟨g1, ?_, ?_⟩
      · simp [iv_setI]; rfl
      · refine Eq.trans ?_ g3
        simp [iv_setI]
    · intro i hi hne h
      rcases (show i = 0 ∨ i = 1 ∨ i = 2 ∨ i = 3 ∨ i = 4 ∨ i = 5 ∨ i = 6 ∨ i = 7 ∨ i = 8 ∨ i = 9 ∨ i = 10 ∨ i = 11 ∨ i = 12 by omega) with rfl | rfl | rfl | rfl | rfl | rfl | rfl | rfl | rfl | rfl | rfl | rfl | rfl
      · exact absurd rfl hne
      · exact h
      · refine ⟨σ.1, B1.out F2 (fun a g => ?_) (fun _ _ g => g.elim), fun b hb => by cases hb; rfl⟩
        have g : a = X := g
        omega
      all_goals exact h
  have h2 := T2.2.2
  obtain ⟨j12, j0, -⟩ := h2.s0
  obtain ⟨y0, y1, y2, y3, -⟩ := h2.br
  have n2 := h2.nn (i := 3) (by decide)
  refine ⟨jsetI μ1 X 2 (N 1), ?_, T1.trans T2⟩
  simp only [gI12, gR12, pI12, pR12, rv12, gI3, gR3, pI3, pR3, rv3, aI_eq, aB_eq, aR_eq, sI_eq, sB_eq, sR_eq, Option.bind_some, Option.bind_none, if_true, if_false, true_or, or_true, false_or, or_false, true_and, and_true, false_and, and_false, decide_eq_true_eq, decide_true, decide_false, eq_self, not_true_eq_false, not_false_eq_true, jfit0, N_lit, N_add, N_mul, NEG_eq, pl_none, pl_some, rf_some, rf_none, jun_ref, jun_null, ir_ref, ir_null, jr_rf, jun_rf, Option.toList_some, Option.toList_none, List.nil_append, List.cons_append, k12, r0, r1, k138, c1]
  rw [b52_11]
  simp only [gI12, gR12, pI12, pR12, rv12, gI3, gR3, pI3, pR3, rv3, gI6, gR6, pI6, pR6, rv6, aI_eq, aB_eq, aR_eq, sI_eq, sB_eq, sR_eq, Option.bind_some, Option.bind_none, if_true, if_false, true_or, or_true, false_or, or_false, true_and, and_true, false_and, and_false, decide_eq_true_eq, decide_true, decide_false, eq_self, not_true_eq_false, not_false_eq_true, jfit0, N_lit, N_add, N_mul, NEG_eq, pl_none, pl_some, rf_some, rf_none, jun_ref, jun_null, ir_ref, ir_null, jr_rf, jun_rf, Option.toList_some, Option.toList_none, List.nil_append, List.cons_append, i12, jfit2_1, j12, j0, h2.k3, y3, h2.k6 (i := 3) (by decide), n2]
  rfl
theorem t_back (hb : BI μ X) (h : XR μ X σ) : OP (d + 3) 53 [.ref X] μ X (o_back σ) 0 0 := by
  obtain ⟨k12, r0, r1, -⟩ := h.s0
  obtain ⟨-, hi0, -⟩ := h 0 (by decide)
  obtain ⟨s', hs', hse⟩ := h 2 (by decide)
  unfold OP
  rw [jC_run (by decide)]
  show ∃ μ', jR (d + 3) 53 0 [.ref X] [] μ = _ ∧ _
  rw [b53_0]
  simp only [gI12, gR12, pI12, pR12, rv12, aI_eq, aB_eq, aR_eq, sI_eq, sB_eq, sR_eq, Option.bind_some, Option.bind_none, if_true, if_false, true_or, or_true, false_or, or_false, true_and, and_true, false_and, and_false, decide_eq_true_eq, decide_true, decide_false, eq_self, not_true_eq_false, not_false_eq_true, jfit0, N_lit, N_add, N_mul, NEG_eq, pl_none, pl_some, rf_some, rf_none, jun_ref, jun_null, ir_ref, ir_null, jr_rf, jun_rf, Option.toList_some, Option.toList_none, List.nil_append, List.cons_append, k12, hi0, bN_0]
  unfold o_back
  cases e : σ.2.1 with
  | none =>
    refine ⟨μ, ?_, XT.refl hb h⟩
    simp only [Option.isSome_none, if_true, N_lit]
  | some b =>
    have hsb : s' = b := hse b e
    subst hsb
    obtain ⟨μ1, c1, F1, B1⟩ := d_boardBecome (d := d) h.bb hs' (by omega)
    have T1 : XT μ X μ1 (s', σ.2) 0 0 := by
      refine XR.one (k := 1) hb h (by decide) (Fx.fa F1 hb.1) (fun a g => ?_) (fun a j g => ?_) B1 (fun i hi hne h => by rcases (show i = 0 ∨ i = 1 ∨ i = 2 ∨ i = 3 ∨ i = 4 ∨ i = 5 ∨ i = 6 ∨ i = 7 ∨ i = 8 ∨ i = 9 ∨ i = 10 ∨ i = 11 ∨ i = 12 by omega) with rfl | rfl | rfl | rfl | rfl | rfl | rfl | rfl | rfl | rfl | rfl | rfl | rfl <;> first | exact absurd rfl hne | exact h)
      · have g : X + 1 ≤ a ∧ a < X + 1 + 137 := g
        show X + 1 ≤ a ∧ a < X + 138; omega
      · have g : X + 1 ≤ a ∧ a < X + 1 + 137 := g
        show X + 1 ≤ a ∧ a < X + 138; omega
    have h1 := T1.2.2
    obtain ⟨i12, i0, -⟩ := h1.s0
    obtain ⟨μ2, c2, T2⟩ := t_forget (d := d + 1) T1.2.1 h1
    have h2 := T2.2.2
    obtain ⟨j12, j0, -⟩ := h2.s0
    obtain ⟨y0, y1, y2, y3, -⟩ := h2.br
    have n2 := h2.nn (i := 3) (by decide)
    refine ⟨μ2, ?_, T1.trans T2⟩
    simp only [Option.isSome_some, Bool.true_eq_false, if_false, gI12, gR12, pI12, pR12, rv12, gI3, gR3, pI3, pR3, rv3, aI_eq, aB_eq, aR_eq, sI_eq, sB_eq, sR_eq, Option.bind_some, Option.bind_none, if_true, if_false, true_or, or_true, false_or, or_false, true_and, and_true, false_and, and_false, decide_eq_true_eq, decide_true, decide_false, eq_self, not_true_eq_false, not_false_eq_true, jfit0, N_lit, N_add, N_mul, NEG_eq, pl_none, pl_some, rf_some, rf_none, jun_ref, jun_null, ir_ref, ir_null, jr_rf, jun_rf, Option.toList_some, Option.toList_none, List.nil_append, List.cons_append, k12, r0, r1, h.k3, c1]
    rw [b53_21]
    simp only [gI12, gR12, pI12, pR12, rv12, aI_eq, aB_eq, aR_eq, sI_eq, sB_eq, sR_eq, Option.bind_some, Option.bind_none, if_true, if_false, true_or, or_true, false_or, or_false, true_and, and_true, false_and, and_false, decide_eq_true_eq, decide_true, decide_false, eq_self, not_true_eq_false, not_false_eq_true, jfit0, N_lit, N_add, N_mul, NEG_eq, pl_none, pl_some, rf_some, rf_none, jun_ref, jun_null, ir_ref, ir_null, jr_rf, jun_rf, Option.toList_some, Option.toList_none, List.nil_append, List.cons_append, i12, c2]
    rw [b53_25]
    simp only [gI12, gR12, pI12, pR12, rv12, gI3, gR3, pI3, pR3, rv3, gI6, gR6, pI6, pR6, rv6, aI_eq, aB_eq, aR_eq, sI_eq, sB_eq, sR_eq, Option.bind_some, Option.bind_none, if_true, if_false, true_or, or_true, false_or, or_false, true_and, and_true, false_and, and_false, decide_eq_true_eq, decide_true, decide_false, eq_self, not_true_eq_false, not_false_eq_true, jfit0, N_lit, N_add, N_mul, NEG_eq, pl_none, pl_some, rf_some, rf_none, jun_ref, jun_null, ir_ref, ir_null, jr_rf, jun_rf, Option.toList_some, Option.toList_none, List.nil_append, List.cons_append, j12, j0, h2.k3, y3, h2.k6 (i := 3) (by decide), n2]
    rfl
theorem t_count (hb : BI μ X) (h : XR μ X σ) : OP (d + 1) 54 [.ref X, .int x] μ X (o_count σ x) 0 0 := by
  obtain ⟨k12, r0, r1, r3, r4, r5, r6, -⟩ := h.s0
  obtain ⟨tq, tb, -⟩ := h 3 (by decide)
  obtain ⟨-, -, -, -, -, nc, -, -, n7, -⟩ := h.bb
  have hcn := h.cn
  unfold OP
  rw [jC_run (by decide)]
  show ∃ μ', jR (d + 1) 54 0 [.ref X, .int x] [] μ = _ ∧ _
  rw [b54_0]
  simp only [x_isGrid, aI_eq, aB_eq, aR_eq, sI_eq, sB_eq, sR_eq, Option.bind_some, Option.bind_none, if_true, if_false, true_or, or_true, false_or, or_false, true_and, and_true, false_and, and_false, decide_eq_true_eq, decide_true, decide_false, eq_self, not_true_eq_false, not_false_eq_true, jfit0, N_lit, N_add, N_mul, NEG_eq, pl_none, pl_some, rf_some, rf_none, jun_ref, jun_null, ir_ref, ir_null, jr_rf, jun_rf, Option.toList_some, Option.toList_none, List.nil_append, List.cons_append]
  rw [b54_4]
  unfold o_count
  cases e : ix 8 x with
  | none =>
    refine ⟨μ, ?_, XT.refl hb h⟩
    have hx := ix_none (by decide) e
    have e4 : ix 4 x = none := by
      cases e4 : ix 4 x with
      | none => rfl
      | some i =>
        obtain ⟨rfl, hi⟩ := ix_some (by decide) e4
        rw [ix_N (by decide) (by omega)] at e; cases e
    have ne : ∀ k, k < 8 → ¬ x = N k := fun k hk g => by rw [g, ix_N (by decide) hk] at e; cases e
    simp only [e4, Option.isSome_none, bN_false, N_lit, if_true, ne 4 (by decide), ne 5 (by decide), ne 6 (by decide), ne 7 (by decide), if_false]
  | some i =>
    obtain ⟨rfl, hi⟩ := ix_some (by decide) e
    refine ⟨μ, ?_, XT.refl hb h⟩
    have k10 : jk μ (X + 275) = 10 := tq.1.1
    by_cases h4 : i < 4
    · simp only [ix_N (show 4 < 2147483648 by decide) h4, Option.isSome_some, bN_true, N_lit, n10, if_false, gI12, gR12, pI12, pR12, rv12, gI3, gR3, pI3, pR3, rv3, aI_eq, aB_eq, aR_eq, sI_eq, sB_eq, sR_eq, Option.bind_some, Option.bind_none, if_true, if_false, true_or, or_true, false_or, or_false, true_and, and_true, false_and, and_false, decide_eq_true_eq, decide_true, decide_false, eq_self, not_true_eq_false, not_false_eq_true, jfit0, N_lit, N_add, N_mul, NEG_eq, pl_none, pl_some, rf_some, rf_none, jun_ref, jun_null, ir_ref, ir_null, jr_rf, jun_rf, Option.toList_some, Option.toList_none, List.nil_append, List.cons_append, k12, r0, h.k3, t_gridAt h h4]
      rw [b54_15 (hs0 := ir_ref)]
      simp only [gI6, gR6, pI6, pR6, rv6, aI_eq, aB_eq, aR_eq, sI_eq, sB_eq, sR_eq, Option.bind_some, Option.bind_none, if_true, if_false, true_or, or_true, false_or, or_false, true_and, and_true, false_and, and_false, decide_eq_true_eq, decide_true, decide_false, eq_self, not_true_eq_false, not_false_eq_true, jfit0, N_lit, N_add, N_mul, NEG_eq, pl_none, pl_some, rf_some, rf_none, jun_ref, jun_null, ir_ref, ir_null, jr_rf, jun_rf, Option.toList_some, Option.toList_none, List.nil_append, List.cons_append, h.k6 h4, h.nn h4, if_pos h4]
    · have e4 : ix 4 (N i) = none := by
        rw [ix_cases, if_neg (by rw [N_lt (by omega) (by decide)]; omega), if_neg (by rw [N_lt (by omega) (by decide)]; exact h4)]
      simp only [e4, Option.isSome_none, bN_false, N_lit, if_true, if_neg h4, N_inj (show i < 2147483648 by omega) (show 4 < 2147483648 by decide), N_inj (show i < 2147483648 by omega) (show 5 < 2147483648 by decide), N_inj (show i < 2147483648 by omega) (show 6 < 2147483648 by decide), N_inj (show i < 2147483648 by omega) (show 7 < 2147483648 by decide), gI12, gR12, pI12, pR12, rv12, gI4, gR4, pI4, pR4, rv4, gI3, gR3, pI3, pR3, rv3, gI10, gR10, pI10, pR10, rv10, aI_eq, aB_eq, aR_eq, sI_eq, sB_eq, sR_eq, Option.bind_some, Option.bind_none, if_true, if_false, true_or, or_true, false_or, or_false, true_and, and_true, false_and, and_false, decide_eq_true_eq, decide_true, decide_false, eq_self, not_true_eq_false, not_false_eq_true, jfit0, N_lit, N_add, N_mul, NEG_eq, pl_none, pl_some, rf_some, rf_none, jun_ref, jun_null, ir_ref, ir_null, jr_rf, jun_rf, Option.toList_some, Option.toList_none, List.nil_append, List.cons_append, k12, r0, r3, r6, h.k4, h.k3, k10, hcn.1, n7, tb.1, h.un, b54_67]
      rcases (show i = 4 ∨ i = 5 ∨ i = 6 ∨ i = 7 by omega) with rfl | rfl | rfl | rfl <;> rfl
theorem t_exch (hb : BI μ X) (h : XR μ X σ) : OP (d + 6) 40 [.ref X] μ X (o_exch σ) 0 0 := by
  obtain ⟨k12, r0, r1, r3, r4, r5, r6, r8, r9, -⟩ := h.s0
  obtain ⟨q0, q1, q2, q3, q4⟩ := h.br
  obtain ⟨m1, m2, m3, m4, m5, m6⟩ := h.mt
  unfold OP
  rw [jC_run (by decide)]
  show ∃ μ', jR (d + 6) 40 0 [.ref X] [] μ = _ ∧ _
  obtain ⟨μ1, c1, T1, F1, G1, V1, v1⟩ := t_make (d := d) (m := X + 294) (k := 6) hb h (Or.inl ⟨rfl, rfl⟩) (h.gg (i := 0) (by decide)).1 (h.gg (i := 1) (by decide)).1 (h.gg (i := 2) (by decide)).1 (h.gg (i := 0) (by decide)).2 (h.gg (i := 1) (by decide)).2 (h.gg (i := 2) (by decide)).2 h.ru.1 h.ru.2.1 (by unfold gA; omega) (by unfold gA; omega) (by unfold gA; omega) (by omega)
  have h1 := T1.2.2
  obtain ⟨j12, s0, s1, s3, s4, s5, s6, s8, s9, -⟩ := h1.s0
  obtain ⟨t0, t1, t2, t3, t4⟩ := h1.br
  obtain ⟨u1, u2, u3, u4, u5, u6⟩ := h1.mt
  rw [b40_0]
  simp only [gI12, gR12, pI12, pR12, rv12, gI3, gR3, pI3, pR3, rv3, gI7, gR7, pI7, pR7, rv7, aI_eq, aB_eq, aR_eq, sI_eq, sB_eq, sR_eq, Option.bind_some, Option.bind_none, if_true, if_false, true_or, or_true, false_or, or_false, true_and, and_true, false_and, and_false, decide_eq_true_eq, decide_true, decide_false, eq_self, not_true_eq_false, not_false_eq_true, jfit0, N_lit, N_add, N_mul, NEG_eq, pl_none, pl_some, rf_some, rf_none, jun_ref, jun_null, ir_ref, ir_null, jr_rf, jun_rf, Option.toList_some, Option.toList_none, List.nil_append, List.cons_append, k12, r0, r8, h.k3, q0, q1, q2, q4, m1, c1]
  rw [b40_35]
  unfold o_exch
  cases e : pMerge σ.1.2.1 (σ.1.1 0) (σ.1.1 1) (σ.1.1 2) with
  | none =>
    refine ⟨μ1, ?_, T1⟩
    simp only [mkR, N_lit, if_true, b40_76]
  | some W =>
    obtain ⟨w1, w2⟩ := v1 W e
    have w1 : dG μ1 (xA (X + 295)) = W.1 := w1
    have G1 : GV μ1 (X + 766) (X + 295) := G1
    obtain ⟨μ2, c2, T2, F2, G2, V2, v2⟩ := t_make (d := d) (m := X + 306) (k := 7) T1.2.1 h1 (Or.inr ⟨rfl, rfl⟩) (h1.gg (i := 0) (by decide)).1 (h1.gg (i := 2) (by decide)).1 (h1.gg (i := 1) (by decide)).1 (h1.gg (i := 0) (by decide)).2 (h1.gg (i := 2) (by decide)).2 (h1.gg (i := 1) (by decide)).2 h1.ru.1 h1.ru.2.1 (by unfold gA; omega) (by unfold gA; omega) (by unfold gA; omega) (by omega)
    have h2 := T2.2.2
    obtain ⟨l12, z0, z1, z3, z4, z5, z6, z8, z9, -⟩ := h2.s0
    obtain ⟨y1, y2, y3, y4, y5, y6⟩ := h2.mt
    obtain ⟨G12, d12⟩ := G1.outx F2 (fun a g => by
      have g : X + 306 ≤ a ∧ a < X + 306 + 12 := g
      omega) (fun a j g => by
      have g : a = X + 306 + 5 ∨ (a = X + 306 ∧ 2 ≤ j ∧ j < 6) := g
      omega)
    simp only [mkR, N_lit, n10, if_false, gI12, gR12, pI12, pR12, rv12, gI3, gR3, pI3, pR3, rv3, gI7, gR7, pI7, pR7, rv7, aI_eq, aB_eq, aR_eq, sI_eq, sB_eq, sR_eq, Option.bind_some, Option.bind_none, if_true, if_false, true_or, or_true, false_or, or_false, true_and, and_true, false_and, and_false, decide_eq_true_eq, decide_true, decide_false, eq_self, not_true_eq_false, not_false_eq_true, jfit0, N_lit, N_add, N_mul, NEG_eq, pl_none, pl_some, rf_some, rf_none, jun_ref, jun_null, ir_ref, ir_null, jr_rf, jun_rf, Option.toList_some, Option.toList_none, List.nil_append, List.cons_append, j12, s0, s9, h1.k3, t0, t1, t2, t4, u4, c2]
    rw [b40_73]
    cases e2 : pMerge σ.1.2.1 (σ.1.1 0) (σ.1.1 2) (σ.1.1 1) with
    | none =>
      refine ⟨μ2, ?_, T1.trans T2⟩
      simp only [mkR, N_lit, if_true, b40_76]
    | some V =>
      obtain ⟨x1, x2⟩ := v2 V e2
      have x1 : dG μ2 (xA (X + 307)) = V.1 := x1
      have G2 : GV μ2 (X + 766) (X + 307) := G2
      have c3 := x_unlikeCells (d := d + 2) (D := X + 766) G12.2.1 G12.2.2.1 G2.2.1 G2.2.2.1 G12.2.2.2 G2.2.2.2
      rw [d12, w1, x1, ← len_dG, d12, w1] at c3
      have k295 : jk μ2 (X + 295) = 6 := G12.2.1.1.1
      refine ⟨μ2, ?_, T1.trans T2⟩
      simp only [mkR, N_lit, n10, if_false, gI12, gR12, pI12, pR12, rv12, gI7, gR7, pI7, pR7, rv7, gI6, gR6, pI6, pR6, rv6, aI_eq, aB_eq, aR_eq, sI_eq, sB_eq, sR_eq, Option.bind_some, Option.bind_none, if_true, if_false, true_or, or_true, false_or, or_false, true_and, and_true, false_and, and_false, decide_eq_true_eq, decide_true, decide_false, eq_self, not_true_eq_false, not_false_eq_true, jfit0, N_lit, N_add, N_mul, NEG_eq, pl_none, pl_some, rf_some, rf_none, jun_ref, jun_null, ir_ref, ir_null, jr_rf, jun_rf, Option.toList_some, Option.toList_none, List.nil_append, List.cons_append, l12, z8, z9, y1, y2, y4, y5, k295, c3, b40_96]
end TOP
