/-! THE CLASS's CALLS: clashes settled, sheets, films, bytes fed -/
section TOP
variable {μ μ' μ'' : jM} {n w m v lo hi a b r q s D d X i k p : Nat} {σ σ' : SG} {x y z u g c : Int32}
/-- what is known of the clashes that aren't settled -/
def CW (σ : SG) : Prop := ∀ c, c ∈ σ.2.2.2.1 → c.2.2.2 ≠ N 1 → (∃ p, lfind c.2.1 (σ.1.1 3) = some p) ∧ (c.1 = N 1 ∨ c.1 = N 3 → ∃ k, k < 3 ∧ c.2.2.1 = N k)
theorem t_settle (hb : BI μ X) (h : XR μ X σ) (hw : CW σ) : OP (d + 5) 37 [.ref X, .int x, .int y] μ X (o_settle σ x y) 0 0 := by
  obtain ⟨k12, r0, r1, r3, r4, r5, r6, -⟩ := h.s0
  obtain ⟨q0, q1, q2, q3, q4⟩ := h.br
  obtain ⟨hcv, hcl⟩ := h 5 (by decide)
  have hn := h.cn
  unfold OP
  rw [jC_run (by decide)]
  show ∃ μ', jR (d + 5) 37 0 [.ref X, .int x, .int y, .retAddr 0] [] μ = _ ∧ _
  rw [b37_0]
  simp only [x_isIn, aI_eq, aB_eq, aR_eq, sI_eq, sB_eq, sR_eq, Option.bind_some, Option.bind_none, if_true, if_false, true_or, or_true, false_or, or_false, true_and, and_true, false_and, and_false, decide_eq_true_eq, decide_true, decide_false, eq_self, not_true_eq_false, not_false_eq_true, jfit0, N_lit, N_add, N_mul, NEG_eq, pl_none, pl_some, rf_some, rf_none, jun_ref, jun_null, ir_ref, ir_null, jr_rf, jun_rf, Option.toList_some, Option.toList_none, List.nil_append, List.cons_append]
  rw [b37_6]
  unfold o_settle
  by_cases e3 : y < N 0 ∨ N 2 < y
  · refine ⟨μ, ?_, ?_⟩
    · rw [pN_neg (fun g => e3.elim g.1 g.2), if_pos (by rfl)]
      simp only [if_pos e3]; rfl
    · simp only [if_pos e3]; exact XT.refl hb h
  · rw [pN_pos ⟨fun g => e3 (Or.inl g), fun g => e3 (Or.inr g)⟩]
    have hy : y = N 0 ∨ y = N 1 ∨ y = N 2 := by
      have h0 : ¬ y < N 0 := fun g => e3 (Or.inl g)
      have h2 : ¬ N 2 < y := fun g => e3 (Or.inr g)
      obtain ⟨b, hb, rfl⟩ := N_of h0
      rw [N_lt (by decide) hb] at h2
      rcases (show b = 0 ∨ b = 1 ∨ b = 2 by omega) with rfl | rfl | rfl
      · exact Or.inl rfl
      · exact Or.inr (Or.inl rfl)
      · exact Or.inr (Or.inr rfl)
    have c1 := d_has (d := d + 4) hcv x
    have hcl : cL μ (X + 289) = σ.2.2.2.1 := hcl
    rw [hcl] at c1
    simp only [if_neg e3, N_lit, n10, if_false, gI12, gR12, pI12, pR12, rv12, gI4, gR4, pI4, pR4, rv4, aI_eq, aB_eq, aR_eq, sI_eq, sB_eq, sR_eq, Option.bind_some, Option.bind_none, if_true, if_false, true_or, or_true, false_or, or_false, true_and, and_true, false_and, and_false, decide_eq_true_eq, decide_true, decide_false, eq_self, not_true_eq_false, not_false_eq_true, jfit0, N_lit, N_add, N_mul, NEG_eq, pl_none, pl_some, rf_some, rf_none, jun_ref, jun_null, ir_ref, ir_null, jr_rf, jun_rf, Option.toList_some, Option.toList_none, List.nil_append, List.cons_append, k12, r6, h.k4, c1]
    rw [b37_20]
    cases e : ix σ.2.2.2.1.length x with
    | none =>
      refine ⟨μ, ?_, XT.refl hb h⟩
      have hx := ix_none (by omega) e
      rw [pN_neg (fun g => hx.elim g.1 (fun q => q g.2)), if_pos (by rfl)]; rfl
    | some i =>
      obtain ⟨rfl, hi⟩ := ix_some (by omega) e
      have hget : σ.2.2.2.1[i]? = some (jiv μ (X + 290) i, jiv μ (X + 291) i, jiv μ (X + 292) i, jiv μ (X + 293) i) := by
        rw [← hcl]
        exact cL_get (by rw [← len_cL, hcl]; exact hi)
      obtain ⟨⟨v0, v1, l1, v2, l2, v3, l3, v4, l4⟩, ⟨s1, s2, s3, s4⟩, -⟩ := id hcv
      have i48 : i < 48 := by omega
      have g1 := ent_get (μ := μ) v1 l1 i48 (by decide)
      have g2 := ent_get (μ := μ) v2 l2 i48 (by decide)
      have g3 := ent_get (μ := μ) v3 l3 i48 (by decide)
      have g4 := ent_get (μ := μ) v4 l4 i48 (by decide)
      have m48 : σ.2.2.2.1[i]? = some (jiv μ (X + 290) i, jiv μ (X + 291) i, jiv μ (X + 292) i, jiv μ (X + 293) i) := hget
      rw [pN_pos ⟨by rw [N_lt (by omega) (by decide)]; omega, by rw [N_lt (by omega) (by omega)]; exact hi⟩]
      simp only [N_lit, n10, if_false, gI12, gR12, pI12, pR12, rv12, gI4, gR4, pI4, pR4, rv4, gI3, gR3, pI3, pR3, rv3, Option.bind_some, Option.bind_none, if_true, if_false, true_or, or_true, false_or, or_false, true_and, and_true, false_and, and_false, decide_eq_true_eq, decide_true, decide_false, eq_self, not_true_eq_false, not_false_eq_true, jfit0, N_lit, N_add, N_mul, NEG_eq, pl_none, pl_some, rf_some, rf_none, jun_ref, jun_null, ir_ref, ir_null, jr_rf, jun_rf, Option.toList_some, Option.toList_none, List.nil_append, List.cons_append, k12, r0, r6, h.k4, h.k3, q0, q1, q2, s4, g4, hget]
      by_cases es : jiv μ (X + 293) i = N 1
      · simp only [if_pos es]
        exact ⟨μ, rfl, XT.refl hb h⟩
      · simp only [if_neg es]
        obtain ⟨⟨p, hp⟩, hco⟩ := hw _ (List.mem_of_getElem? hget) es
        have hp : lfind (jiv μ (X + 291) i) (σ.1.1 3) = some p := hp
        have hj : sby y < 3 := by
          unfold sby
          split
          · decide
          · split <;> decide
        have hset : (if y = N 0 then jR (d + 5) 37 78 [.ref X, .int (N i), .int y, .retAddr 0] [va_rf (some (gA X 1))] μ else if y = N 1 then jR (d + 5) 37 78 [.ref X, .int (N i), .int y, .retAddr 0] [va_rf (some (gA X 2))] μ else jR (d + 5) 37 78 [.ref X, .int (N i), .int y, .retAddr 0] [va_rf (some (gA X 0))] μ) = jR (d + 5) 37 78 [.ref X, .int (N i), .int y, .retAddr 0] [.ref (gA X (sby y))] μ := by
          unfold sby
          rcases hy with rfl | rfl | rfl
          · rw [if_pos rfl, if_pos rfl]; rfl
          · rw [if_neg (by decide), if_pos rfl, if_neg (by decide), if_pos rfl]; rfl
          · rw [if_neg (by decide), if_neg (by decide), if_neg (by decide), if_neg (by decide)]; rfl
        obtain ⟨μ1, c2, F1, B1⟩ := d_mergedAsIn (d := d) (kd := jiv μ (X + 290) i) (key := jiv μ (X + 291) i) (col := jiv μ (X + 292) i) h.bb hj hp hco
        have F1 : FG (gA X 3) μ μ1 := F1
        have T1 : XT μ X μ1 (stg σ 3 (pSet (σ.1.1 3) (σ.1.1 (sby y)) (jiv μ (X + 290) i) (jiv μ (X + 291) i) (jiv μ (X + 292) i))) 0 0 := by
          refine XR.one (k := 1) hb h (by decide) (Fx.fa F1 hb.1) (fun a g => ?_) (fun a j g => ?_) B1 (fun i hi hne h => by rcases (show i = 0 ∨ i = 1 ∨ i = 2 ∨ i = 3 ∨ i = 4 ∨ i = 5 ∨ i = 6 ∨ i = 7 ∨ i = 8 ∨ i = 9 ∨ i = 10 ∨ i = 11 ∨ i = 12 by omega) with rfl | rfl | rfl | rfl | rfl | rfl | rfl | rfl | rfl | rfl | rfl | rfl | rfl <;> first | exact absurd rfl hne | exact h)
          · have g : gA X 3 ≤ a ∧ a < gA X 3 + 6 := g
            unfold gA at g
            show X + 1 ≤ a ∧ a < X + 138; omega
          · have g : a = gA X 3 + 4 := g
            unfold gA at g
            show X + 1 ≤ a ∧ a < X + 138; omega
        have h1 := T1.2.2
        obtain ⟨i12, i0, _, _, _, _, i6, -⟩ := h1.s0
        obtain ⟨ccv, ccl⟩ := h1 5 (by decide)
        have ccl : cL μ1 (X + 289) = σ.2.2.2.1 := ccl
        obtain ⟨⟨w0, w1, wl1, w2, wl2, w3, wl3, w4, wl4⟩, ⟨t1, t2, t3, t4⟩, cn1, cn2⟩ := id ccv
        have s5 := ent_set (μ := μ1) (v := N 1) w4 wl4 i48 (by decide)
        have F2 : FC (X + 289) μ1 (jsetI μ1 (X + 293) i (N 1)) := by
          refine Fx.setI Fx.refl ?_
          show X + 289 ≤ X + 293 ∧ _; omega
        have ecn : cN (jsetI μ1 (X + 293) i (N 1)) (X + 289) = cN μ1 (X + 289) := by
          unfold cN
          rw [iv_setIn (show ¬ X + 289 = X + 293 by omega)]
        have V2 : CV (jsetI μ1 (X + 293) i (N 1)) (X + 289) := ⟨⟨w0, w1, wl1, w2, wl2, w3, wl3, w4, wl4⟩, ⟨t1, t2, t3, t4⟩, by rw [ecn, iv_setIn (show ¬ X + 289 = X + 293 by omega)]; exact cn1, by rw [ecn]; exact cn2⟩
        have hlen : cN μ1 (X + 289) = σ.2.2.2.1.length := by rw [← ccl, len_cL]
        have e5 : cL (jsetI μ1 (X + 293) i (N 1)) (X + 289) = σ.2.2.2.1.set i (jiv μ (X + 290) i, jiv μ (X + 291) i, jiv μ (X + 292) i, N 1) := by
          refine List.ext_getElem? fun j => ?_
          by_cases hj : j < σ.2.2.2.1.length
          · rw [cL_get (by rw [ecn, hlen]; exact hj), List.getElem?_set]
            have g1' := cL_get (μ := μ1) (a := X + 289) (i := j) (by rw [hlen]; exact hj)
            rw [ccl] at g1'
            by_cases ej : i = j
            · subst ej
              rw [if_pos rfl, if_pos hi]
              rw [hget] at g1'
              simp only [Option.some.injEq, Prod.mk.injEq] at g1'
              obtain ⟨a1, a2, a3, a4⟩ := g1'
              have b1 : jiv (jsetI μ1 (X + 293) i (N 1)) (X + 289 + 1) = jiv μ1 (X + 289 + 1) := iv_setIn (by omega)
              have b2 : jiv (jsetI μ1 (X + 293) i (N 1)) (X + 289 + 2) = jiv μ1 (X + 289 + 2) := iv_setIn (by omega)
              have b3 : jiv (jsetI μ1 (X + 293) i (N 1)) (X + 289 + 3) = jiv μ1 (X + 289 + 3) := iv_setIn (by omega)
              have b4 : jiv (jsetI μ1 (X + 293) i (N 1)) (X + 289 + 4) i = N 1 := by simp [iv_setI]
              rw [b1, b2, b3, b4, ← a1, ← a2, ← a3]
            · rw [if_neg ej, g1']
              have b1 : jiv (jsetI μ1 (X + 293) i (N 1)) (X + 289 + 1) = jiv μ1 (X + 289 + 1) := iv_setIn (by omega)
              have b2 : jiv (jsetI μ1 (X + 293) i (N 1)) (X + 289 + 2) = jiv μ1 (X + 289 + 2) := iv_setIn (by omega)
              have b3 : jiv (jsetI μ1 (X + 293) i (N 1)) (X + 289 + 3) = jiv μ1 (X + 289 + 3) := iv_setIn (by omega)
              have b4 : jiv (jsetI μ1 (X + 293) i (N 1)) (X + 289 + 4) j = jiv μ1 (X + 289 + 4) j := by
                simp only [ty_setI, ty_setR, ty_rowI, ty_rowR, jk_setI, jk_setR, jk_rowI, jk_rowR, jl_setI, jl_setR, jl_rowI, jl_rowR, sz_setI, sz_setR, sz_rowI, sz_rowR, ext_setI, ext_setR, iv_setI, iv_setR, iv_rowI, iv_rowR, rv_setI, rv_setR, rv_rowI, rv_rowR, iv_setIn, iv_rowIn, rv_setRn, rv_rowRn, iv_rowIe, rv_rowRe]
                rw [if_neg (fun g => ej g.2.symm)]
              rw [b1, b2, b3, b4]
          · rw [List.getElem?_eq_none (by rw [len_cL, ecn, hlen]; omega), List.getElem?_eq_none (by rw [List.length_set]; omega)]
        have T2 := x_clashes T1.2.1 h1 F2 V2 e5
        have h2 := T2.2.2
        obtain ⟨l12, z0, _, _, _, _, z6, -⟩ := h2.s0
        have hun := h2.un (d := d + 4)
        refine ⟨jsetI μ1 (X + 293) i (N 1), ?_, T1.trans T2⟩
        refine Eq.trans hset ?_
        rw [b37_78 (hs0 := ir_ref)]
        simp only [gI12, gR12, pI12, pR12, rv12, gI4, gR4, pI4, pR4, rv4, gI3, gR3, pI3, pR3, rv3, Option.bind_some, Option.bind_none, if_true, if_false, true_or, or_true, false_or, or_false, true_and, and_true, false_and, and_false, decide_eq_true_eq, decide_true, decide_false, eq_self, not_true_eq_false, not_false_eq_true, jfit0, N_lit, N_add, N_mul, NEG_eq, pl_none, pl_some, rf_some, rf_none, jun_ref, jun_null, ir_ref, ir_null, jr_rf, jun_rf, Option.toList_some, Option.toList_none, List.nil_append, List.cons_append, k12, r0, r6, h.k4, h.k3, s1, s2, s3, g1, g2, g3]
        have c2' : jC (d + 4) 71 [.ref (X + 1), .ref (gA X (sby y)), .int (jiv μ (X + 290) i), .int (jiv μ (X + 291) i), .int (jiv μ (X + 292) i)] μ = some (none, μ1) := c2
        simp only [c2', Option.bind_some, Option.bind_none, if_true, if_false, true_or, or_true, false_or, or_false, true_and, and_true, false_and, and_false, decide_eq_true_eq, decide_true, decide_false, eq_self, not_true_eq_false, not_false_eq_true, jfit0, N_lit, N_add, N_mul, NEG_eq, pl_none, pl_some, rf_some, rf_none, jun_ref, jun_null, ir_ref, ir_null, jr_rf, jun_rf, Option.toList_some, Option.toList_none, List.nil_append, List.cons_append]
        rw [b37_114]
        have k4' : jk (jsetI μ1 (X + 293) i (N 1)) (X + 289) = 4 := h2.k4
        simp only [N_lit, gI12, gR12, pI12, pR12, rv12, gI4, gR4, pI4, pR4, rv4, Option.bind_some, Option.bind_none, if_true, if_false, true_or, or_true, false_or, or_false, true_and, and_true, false_and, and_false, decide_eq_true_eq, decide_true, decide_false, eq_self, not_true_eq_false, not_false_eq_true, jfit0, N_lit, N_add, N_mul, NEG_eq, pl_none, pl_some, rf_some, rf_none, jun_ref, jun_null, ir_ref, ir_null, jr_rf, jun_rf, Option.toList_some, Option.toList_none, List.nil_append, List.cons_append, i12, i6, h1.k4, t4, s5, l12, z6, k4', hun, b37_131]
        rfl
/-- a sheet's place -/
theorem XR.sh (h : XR μ X σ) (hi : i < 4) : SV μ (X + 334 + 2 * i) ∧ jiv μ (X + 334 + 2 * i) 0 = (σ.2.2.2.2.2 i).1 ∧ shL μ (X + 334 + 2 * i) = (σ.2.2.2.2.2 i).2 := h 12 (by decide) i hi
theorem XR.sa (h : XR μ X σ) (hi : i < 4) : jaR μ (.ref (X + 333)) (N i) = some (.ref (X + 334 + 2 * i)) := by
  obtain ⟨a1, a2, a3⟩ := h 11 (by decide)
  rw [aR_eq, if_pos ⟨by rw [a1]; decide, by rw [a2, jinb_N (by omega)]; exact decide_eq_true hi⟩, N_nat (by omega), a3 i hi]; rfl
theorem XR.sk (h : XR μ X σ) (hi : i < 4) : jk μ (X + 334 + 2 * i) = 9 ∧ vS μ (X + 334 + 2 * i) = (σ.2.2.2.2.2 i).2.length ∧ jiv μ (X + 334 + 2 * i) 1 = N (σ.2.2.2.2.2 i).2.length ∧ (σ.2.2.2.2.2 i).2.length ≤ 40 := by
  obtain ⟨a1, a2, a3⟩ := h.sh hi
  have e : vS μ (X + 334 + 2 * i) = (σ.2.2.2.2.2 i).2.length := by rw [← a3, len_shL]
  exact ⟨a1.1.1, e, by rw [← e]; exact a1.2.1, by rw [← e]; exact a1.2.2.1⟩
theorem x_sheet1 {v : Int32 × List Int32} (hb : BI μ X) (h : XR μ X σ) (hi : i < 4) (F : FSh (X + 334 + 2 * i) μ μ') (hv : SV μ' (X + 334 + 2 * i)) (e0 : jiv μ' (X + 334 + 2 * i) 0 = v.1) (e1 : shL μ' (X + 334 + 2 * i) = v.2) : XT μ X μ' (ssh σ i v) 0 0 := by
  refine XR.one (k := 12) hb h (by decide) (Fx.fa F hb.1) (fun a g => ?_) (fun a j g => g.elim) (fun k hk => ?_) (fun i hi hne h => by rcases (show i = 0 ∨ i = 1 ∨ i = 2 ∨ i = 3 ∨ i = 4 ∨ i = 5 ∨ i = 6 ∨ i = 7 ∨ i = 8 ∨ i = 9 ∨ i = 10 ∨ i = 11 ∨ i = 12 by omega) with rfl | rfl | rfl | rfl | rfl | rfl | rfl | rfl | rfl | rfl | rfl | rfl | rfl <;> first | exact absurd rfl hne | exact h)
  · have g : X + 334 + 2 * i ≤ a ∧ a < X + 334 + 2 * i + 2 := g
    show X + 334 ≤ a ∧ a < X + 342; omega
  · show SV μ' (X + 334 + 2 * k) ∧ jiv μ' (X + 334 + 2 * k) 0 = (updf σ.2.2.2.2.2 i v k).1 ∧ shL μ' (X + 334 + 2 * k) = (updf σ.2.2.2.2.2 i v k).2
    unfold updf
    by_cases ek : k = i
    · subst ek
      rw [if_pos rfl]
      exact ⟨hv, e0, e1⟩
    · rw [if_neg ek]
      obtain ⟨a1, a2, a3⟩ := h.sh hk
      obtain ⟨b1, b2, b3⟩ := a1.fr F (fun a g => by
        have g : X + 334 + 2 * i ≤ a ∧ a < X + 334 + 2 * i + 2 := g
        omega) (fun _ _ g => g.elim)
      exact ⟨b1, b3.trans a2, b2.trans a3⟩
theorem t_sheet (hb : BI μ X) (h : XR μ X σ) : OP (d + 2) 55 [.ref X, .int x, .int y, .int z] μ X (o_sheet σ x y z) 0 0 := by
  obtain ⟨k12, r0, r1, r3, r4, r5, r6, r8, r9, r10, r11, r12, r14⟩ := h.s0
  unfold OP
  rw [jC_run (by decide)]
  show ∃ μ', jR (d + 2) 55 0 [.ref X, .int x, .int y, .int z] [] μ = _ ∧ _
  rw [b55_0]
  simp only [x_isSheet, aI_eq, aB_eq, aR_eq, sI_eq, sB_eq, sR_eq, Option.bind_some, Option.bind_none, if_true, if_false, true_or, or_true, false_or, or_false, true_and, and_true, false_and, and_false, decide_eq_true_eq, decide_true, decide_false, eq_self, not_true_eq_false, not_false_eq_true, jfit0, N_lit, N_add, N_mul, NEG_eq, pl_none, pl_some, rf_some, rf_none, jun_ref, jun_null, ir_ref, ir_null, jr_rf, jun_rf, Option.toList_some, Option.toList_none, List.nil_append, List.cons_append]
  rw [b55_4]
  unfold o_sheet
  cases e : ix 4 x with
  | none =>
    refine ⟨μ, ?_, XT.refl hb h⟩
    simp only [Option.isSome_none, bN_false, N_lit, if_true, b55_27]
  | some i =>
    obtain ⟨rfl, hi⟩ := ix_some (by decide) e
    obtain ⟨k9, -, -⟩ := h.sk hi
    simp only [Option.isSome_some, bN_true, N_lit, n10, if_false, x_isIn, aI_eq, aB_eq, aR_eq, sI_eq, sB_eq, sR_eq, Option.bind_some, Option.bind_none, if_true, if_false, true_or, or_true, false_or, or_false, true_and, and_true, false_and, and_false, decide_eq_true_eq, decide_true, decide_false, eq_self, not_true_eq_false, not_false_eq_true, jfit0, N_lit, N_add, N_mul, NEG_eq, pl_none, pl_some, rf_some, rf_none, jun_ref, jun_null, ir_ref, ir_null, jr_rf, jun_rf, Option.toList_some, Option.toList_none, List.nil_append, List.cons_append]
    rw [b55_13]
    -- a sheet as it shall be
    have go : ∀ (t : Int32) (n : Nat), n ≤ 40 → (t = NEG ∨ t = N 0 ∨ t = N 1) → ∃ μ', jR (d + 2) 55 59 [.ref X, .int (N i), .int y, .int z] [.int (N n), .int t, .ref (X + 334 + 2 * i)] μ = some (some (.int (N 1)), μ') ∧ XT μ X μ' (ssh σ i (t, List.replicate n (N 0))) 0 0 := by
      intro t n hn ht
      obtain ⟨μ', c1, F, v1, v2, v3⟩ := x_shBecome (d := d) (h.sh hi).1 hn ht
      refine ⟨μ', ?_, x_sheet1 hb h hi F v1 v3 v2⟩
      rw [b55_59 (hs0 := ir_ref)]
      simp only [gI9, gR9, pI9, pR9, rv9, aI_eq, aB_eq, aR_eq, sI_eq, sB_eq, sR_eq, Option.bind_some, Option.bind_none, if_true, if_false, true_or, or_true, false_or, or_false, true_and, and_true, false_and, and_false, decide_eq_true_eq, decide_true, decide_false, eq_self, not_true_eq_false, not_false_eq_true, jfit0, N_lit, N_add, N_mul, NEG_eq, pl_none, pl_some, rf_some, rf_none, jun_ref, jun_null, ir_ref, ir_null, jr_rf, jun_rf, Option.toList_some, Option.toList_none, List.nil_append, List.cons_append, k9, c1, b55_62]
    by_cases et : y = NEG
    · subst et
      obtain ⟨μ', c1, T1⟩ := go NEG 0 (by decide) (Or.inl rfl)
      refine ⟨μ', ?_, ?_⟩
      · rw [pN_pos ⟨by decide, by decide⟩]
        simp only [N_lit, n10, if_false, NEG_eq, if_true, b55_30, b55_42, gI12, gR12, pI12, pR12, rv12, Option.bind_some, Option.bind_none, if_true, if_false, true_or, or_true, false_or, or_false, true_and, and_true, false_and, and_false, decide_eq_true_eq, decide_true, decide_false, eq_self, not_true_eq_false, not_false_eq_true, jfit0, N_lit, N_add, N_mul, NEG_eq, pl_none, pl_some, rf_some, rf_none, jun_ref, jun_null, ir_ref, ir_null, jr_rf, jun_rf, Option.toList_some, Option.toList_none, List.nil_append, List.cons_append, k12, r14, h.sa hi]
        exact c1
      · simp only [if_true]; exact T1
    · simp only [if_neg et]
      by_cases e01 : y = N 0 ∨ y = N 1
      · have hp : ¬ y < -1 ∧ ¬ N 1 < y := by rcases e01 with rfl | rfl <;> decide
        have hp' : ¬ y < NEG ∧ ¬ N 1 < y := hp
        rw [pN_pos hp']
        simp only [if_pos e01, N_lit, n10, if_false, NEG_eq, et]
        by_cases e40 : N 40 < z
        · simp only [if_pos e40]
          refine ⟨μ, ?_, XT.refl hb h⟩
          exact (if_pos e40).trans (by rw [b55_27]; rfl)
        · simp only [if_neg e40]
          by_cases ez : z < N 0
          · simp only [if_pos ez]
            refine ⟨μ, ?_, XT.refl hb h⟩
            simp only [b55_30, N_lit, NEG_eq, et, if_false, ez, if_true, e40]
          · simp only [if_neg ez]
            obtain ⟨k, hk, rfl⟩ := N_of ez
            have e41 := e40
            rw [N_lt (by decide) hk] at e40
            obtain ⟨μ', c1, T1⟩ := go y k (by omega) (Or.inr e01)
            refine ⟨μ', ?_, by rw [N_nat hk]; exact T1⟩
            simp only [b55_30, N_lit, NEG_eq, et, if_false, ez, e41, b55_42, gI12, gR12, pI12, pR12, rv12, Option.bind_some, Option.bind_none, if_true, if_false, true_or, or_true, false_or, or_false, true_and, and_true, false_and, and_false, decide_eq_true_eq, decide_true, decide_false, eq_self, not_true_eq_false, not_false_eq_true, jfit0, N_lit, N_add, N_mul, NEG_eq, pl_none, pl_some, rf_some, rf_none, jun_ref, jun_null, ir_ref, ir_null, jr_rf, jun_rf, Option.toList_some, Option.toList_none, List.nil_append, List.cons_append, k12, r14, h.sa hi]
            exact c1
      · simp only [if_neg e01]
        refine ⟨μ, ?_, XT.refl hb h⟩
        rw [pN_neg (fun g => ?_), if_pos (by rfl), b55_27]; rfl
        have g1 : ¬ y < NEG := g.1
        by_cases h0 : y < N 0
        · have : y = NEG := by
            refine Int32.toInt_inj.mp ?_
            rw [Int32.lt_iff_toInt_lt] at g1 h0
            rw [NEG_toInt] at g1 ⊢
            rw [N_toInt (by decide)] at h0
            omega
          exact et this
        · obtain ⟨b, hb, rfl⟩ := N_of h0
          have g2 := g.2
          rw [N_lt (by decide) hb] at g2
          rcases (show b = 0 ∨ b = 1 by omega) with rfl | rfl
          · exact e01 (Or.inl rfl)
          · exact e01 (Or.inr rfl)
theorem HI_ix {l : Nat} (hl : l ≤ 40) {i : Int32} : (HI l i (N 1)) ↔ ∃ j, ix l i = some j := by
  constructor
  · intro g
    obtain ⟨j, hj, rfl⟩ := HI_1 hl g
    exact ⟨j, ix_N (by omega) hj⟩
  · rintro ⟨j, hj⟩
    obtain ⟨rfl, hj2⟩ := ix_some (by omega) hj
    exact HI_N hl hj2
theorem t_put (hb : BI μ X) (h : XR μ X σ) : OP (d + 2) 56 [.ref X, .int x, .int y, .int z] μ X (o_put σ x y z) 0 0 := by
  obtain ⟨k12, r0, r1, r3, r4, r5, r6, r8, r9, r10, r11, r12, r14⟩ := h.s0
  unfold OP
  rw [jC_run (by decide)]
  show ∃ μ', jR (d + 2) 56 0 [.ref X, .int x, .int y, .int z] [] μ = _ ∧ _
  rw [b56_0]
  simp only [x_isSheet, aI_eq, aB_eq, aR_eq, sI_eq, sB_eq, sR_eq, Option.bind_some, Option.bind_none, if_true, if_false, true_or, or_true, false_or, or_false, true_and, and_true, false_and, and_false, decide_eq_true_eq, decide_true, decide_false, eq_self, not_true_eq_false, not_false_eq_true, jfit0, N_lit, N_add, N_mul, NEG_eq, pl_none, pl_some, rf_some, rf_none, jun_ref, jun_null, ir_ref, ir_null, jr_rf, jun_rf, Option.toList_some, Option.toList_none, List.nil_append, List.cons_append]
  rw [b56_4]
  unfold o_put
  cases e : ix 4 x with
  | none =>
    refine ⟨μ, ?_, XT.refl hb h⟩
    simp only [Option.isSome_none, bN_false, N_lit, if_true]
  | some i =>
    obtain ⟨rfl, hi⟩ := ix_some (by decide) e
    obtain ⟨k9, vs, -, l40⟩ := h.sk hi
    obtain ⟨sv, s0, sl⟩ := h.sh hi
    have c1 := x_isMissing (d := d + 1) sv
    rw [s0] at c1
    simp only [Option.isSome_some, bN_true, N_lit, n10, if_false, gI12, gR12, pI12, pR12, rv12, gI9, gR9, pI9, pR9, rv9, Option.bind_some, Option.bind_none, if_true, if_false, true_or, or_true, false_or, or_false, true_and, and_true, false_and, and_false, decide_eq_true_eq, decide_true, decide_false, eq_self, not_true_eq_false, not_false_eq_true, jfit0, N_lit, N_add, N_mul, NEG_eq, pl_none, pl_some, rf_some, rf_none, jun_ref, jun_null, ir_ref, ir_null, jr_rf, jun_rf, Option.toList_some, Option.toList_none, List.nil_append, List.cons_append, k12, r14, h.sa hi, k9, c1]
    rw [b56_19]
    by_cases em : (σ.2.2.2.2.2 i).1 = NEG
    · simp only [pN_pos em, if_pos em, N_lit, n10, if_false]
      exact ⟨μ, rfl, XT.refl hb h⟩
    · have c2 := x_hasItems (d := d + 1) (i := y) (m := N 1) sv
      rw [vs] at c2
      simp only [pN_neg em, if_neg em, N_lit, if_true, gI12, gR12, pI12, pR12, rv12, gI9, gR9, pI9, pR9, rv9, Option.bind_some, Option.bind_none, if_true, if_false, true_or, or_true, false_or, or_false, true_and, and_true, false_and, and_false, decide_eq_true_eq, decide_true, decide_false, eq_self, not_true_eq_false, not_false_eq_true, jfit0, N_lit, N_add, N_mul, NEG_eq, pl_none, pl_some, rf_some, rf_none, jun_ref, jun_null, ir_ref, ir_null, jr_rf, jun_rf, Option.toList_some, Option.toList_none, List.nil_append, List.cons_append, k12, r14, h.sa hi, k9, c2]
      rw [b56_36]
      cases e2 : ix (σ.2.2.2.2.2 i).2.length y with
      | none =>
        refine ⟨μ, ?_, XT.refl hb h⟩
        rw [pN_neg (fun g => by obtain ⟨j, hj⟩ := (HI_ix l40).mp g; rw [e2] at hj; cases hj), if_pos (by rfl)]; rfl
      | some j =>
        obtain ⟨rfl, hj⟩ := ix_some (by omega) e2
        obtain ⟨μ', c3, F, v1, v2, v3⟩ := x_shSet (d := d) (v := z) sv (by rw [vs]; exact hj)
        rw [pN_pos ((HI_ix l40).mpr ⟨j, e2⟩)]
        rw [s0, sl] at v2
        refine ⟨μ', ?_, x_sheet1 hb h hi F v1 (v3.trans s0) v2⟩
        simp only [N_lit, n10, if_false, gI12, gR12, pI12, pR12, rv12, gI9, gR9, pI9, pR9, rv9, Option.bind_some, Option.bind_none, if_true, if_false, true_or, or_true, false_or, or_false, true_and, and_true, false_and, and_false, decide_eq_true_eq, decide_true, decide_false, eq_self, not_true_eq_false, not_false_eq_true, jfit0, N_lit, N_add, N_mul, NEG_eq, pl_none, pl_some, rf_some, rf_none, jun_ref, jun_null, ir_ref, ir_null, jr_rf, jun_rf, Option.toList_some, Option.toList_none, List.nil_append, List.cons_append, k12, r14, h.sa hi, k9, c3, b56_53]
theorem HI_hix {l : Nat} (hl : l ≤ 40) {i n : Int32} : HI l i n ↔ ∃ q, hix l i n = some q := by
  unfold HI hix
  constructor
  · rintro ⟨h1, h2, h3⟩
    obtain ⟨a, ha, rfl⟩ := N_of h1
    obtain ⟨b, hb, rfl⟩ := N_of h2
    have h4 : a + b ≤ l := by
      rw [Int32.lt_iff_toInt_lt, N_toInt ha] at h3
      have e : (N l - N b).toInt = (l : Int) - b := by
        rw [Int32.toInt_sub, N_toInt (by omega), N_toInt hb]
        refine Int.bmod_eq_of_le ?_ ?_ <;> omega
      rw [e] at h3
      omega
    rw [ix_N (by omega) (show b < l + 1 by omega)]
    simp only [Option.bind_some]
    rw [ix_N (by omega) (show a < l + 1 - b by omega)]
    exact ⟨_, rfl⟩
  · rintro ⟨q, hq⟩
    cases e1 : ix (l + 1) n with
    | none => rw [e1] at hq; cases hq
    | some b =>
      obtain ⟨rfl, hb⟩ := ix_some (by omega) e1
      rw [e1] at hq
      simp only [Option.bind_some] at hq
      cases e2 : ix (l + 1 - b) i with
      | none => rw [e2] at hq; cases hq
      | some a =>
        obtain ⟨rfl, ha⟩ := ix_some (by omega) e2
        rw [N_sub (show b ≤ l by omega), N_lt (by omega) (by decide), N_lt (by omega) (by decide), N_lt (by omega) (by omega)]
        omega
theorem hix_some {l : Nat} (hl : l ≤ 40) {i n : Int32} {q : Nat × Nat} (h : hix l i n = some q) : i = N q.1 ∧ n = N q.2 ∧ q.1 + q.2 ≤ l := by
  unfold hix at h
  cases e1 : ix (l + 1) n with
  | none => rw [e1] at h; cases h
  | some b =>
    obtain ⟨rfl, hb⟩ := ix_some (by omega) e1
    rw [e1] at h
    simp only [Option.bind_some] at h
    cases e2 : ix (l + 1 - b) i with
    | none => rw [e2] at h; cases h
    | some a =>
      obtain ⟨rfl, ha⟩ := ix_some (by omega) e2
      rw [e2] at h
      cases h
      exact ⟨rfl, rfl, by show a + b ≤ l; omega⟩
theorem t_copy (hb : BI μ X) (h : XR μ X σ) : OP (d + 2) 57 [.ref X, .int x, .int y, .int z, .int u, .int c] μ X (o_copy σ x y z u c) 0 0 := by
  obtain ⟨k12, r0, r1, r3, r4, r5, r6, r8, r9, r10, r11, r12, r14⟩ := h.s0
  unfold OP
  rw [jC_run (by decide)]
  show ∃ μ', jR (d + 2) 57 0 [.ref X, .int x, .int y, .int z, .int u, .int c, .retAddr 0, .retAddr 0] [] μ = _ ∧ _
  rw [b57_0]
  simp only [x_isSheet, aI_eq, aB_eq, aR_eq, sI_eq, sB_eq, sR_eq, Option.bind_some, Option.bind_none, if_true, if_false, true_or, or_true, false_or, or_false, true_and, and_true, false_and, and_false, decide_eq_true_eq, decide_true, decide_false, eq_self, not_true_eq_false, not_false_eq_true, jfit0, N_lit, N_add, N_mul, NEG_eq, pl_none, pl_some, rf_some, rf_none, jun_ref, jun_null, ir_ref, ir_null, jr_rf, jun_rf, Option.toList_some, Option.toList_none, List.nil_append, List.cons_append]
  rw [b57_4]
  unfold o_copy
  cases e : ix 4 x with
  | none =>
    refine ⟨μ, ?_, XT.refl hb h⟩
    simp only [Option.isSome_none, bN_false, N_lit, if_true, b57_14]
  | some i =>
    obtain ⟨rfl, hi⟩ := ix_some (by decide) e
    simp only [Option.isSome_some, bN_true, N_lit, n10, if_false, x_isSheet, aI_eq, aB_eq, aR_eq, sI_eq, sB_eq, sR_eq, Option.bind_some, Option.bind_none, if_true, if_false, true_or, or_true, false_or, or_false, true_and, and_true, false_and, and_false, decide_eq_true_eq, decide_true, decide_false, eq_self, not_true_eq_false, not_false_eq_true, jfit0, N_lit, N_add, N_mul, NEG_eq, pl_none, pl_some, rf_some, rf_none, jun_ref, jun_null, ir_ref, ir_null, jr_rf, jun_rf, Option.toList_some, Option.toList_none, List.nil_append, List.cons_append]
    rw [b57_11]
    cases e2 : ix 4 z with
    | none =>
      refine ⟨μ, ?_, XT.refl hb h⟩
      simp only [Option.isSome_none, bN_false, N_lit, if_true, b57_14]
    | some o =>
      obtain ⟨rfl, ho⟩ := ix_some (by decide) e2
      obtain ⟨k9, vs, n1, l40⟩ := h.sk hi
      obtain ⟨sv, s0, sl⟩ := h.sh hi
      obtain ⟨j9, ws, m1, o40⟩ := h.sk ho
      obtain ⟨tv, t0, tl⟩ := h.sh ho
      have c1 := x_isMissing (d := d + 1) sv
      have c2 := x_isMissing (d := d + 1) tv
      rw [s0] at c1
      rw [t0] at c2
      simp only [Option.isSome_some, bN_true, N_lit, n10, if_false, gI12, gR12, pI12, pR12, rv12, gI9, gR9, pI9, pR9, rv9, Option.bind_some, Option.bind_none, if_true, if_false, true_or, or_true, false_or, or_false, true_and, and_true, false_and, and_false, decide_eq_true_eq, decide_true, decide_false, eq_self, not_true_eq_false, not_false_eq_true, jfit0, N_lit, N_add, N_mul, NEG_eq, pl_none, pl_some, rf_some, rf_none, jun_ref, jun_null, ir_ref, ir_null, jr_rf, jun_rf, Option.toList_some, Option.toList_none, List.nil_append, List.cons_append, k12, r14, h.sa hi, h.sa ho, k9, c1]
      rw [b57_38 (h6 := ir_ref) (h7 := ir_ref)]
      by_cases em : (σ.2.2.2.2.2 i).1 = NEG
      · simp only [pN_pos em, if_pos (show (σ.2.2.2.2.2 i).1 = NEG ∨ (σ.2.2.2.2.2 o).1 = NEG from Or.inl em), N_lit, n10, if_false]
        exact ⟨μ, by rw [b57_49]; rfl, XT.refl hb h⟩
      · simp only [pN_neg em, N_lit, if_true, gI9, gR9, pI9, pR9, rv9, Option.bind_some, Option.bind_none, if_true, if_false, true_or, or_true, false_or, or_false, true_and, and_true, false_and, and_false, decide_eq_true_eq, decide_true, decide_false, eq_self, not_true_eq_false, not_false_eq_true, jfit0, N_lit, N_add, N_mul, NEG_eq, pl_none, pl_some, rf_some, rf_none, jun_ref, jun_null, ir_ref, ir_null, jr_rf, jun_rf, Option.toList_some, Option.toList_none, List.nil_append, List.cons_append, j9, c2]
        rw [b57_46 (h6 := ir_ref) (h7 := ir_ref)]
        by_cases em2 : (σ.2.2.2.2.2 o).1 = NEG
        · simp only [pN_pos em2, if_pos (show (σ.2.2.2.2.2 i).1 = NEG ∨ (σ.2.2.2.2.2 o).1 = NEG from Or.inr em2), N_lit, n10, if_false]
          exact ⟨μ, by rw [b57_49]; rfl, XT.refl hb h⟩
        · simp only [pN_neg em2, if_neg (show ¬ ((σ.2.2.2.2.2 i).1 = NEG ∨ (σ.2.2.2.2.2 o).1 = NEG) from fun g => g.elim em em2), N_lit, if_true, gI9, gR9, pI9, pR9, rv9, Option.bind_some, Option.bind_none, if_true, if_false, true_or, or_true, false_or, or_false, true_and, and_true, false_and, and_false, decide_eq_true_eq, decide_true, decide_false, eq_self, not_true_eq_false, not_false_eq_true, jfit0, N_lit, N_add, N_mul, NEG_eq, pl_none, pl_some, rf_some, rf_none, jun_ref, jun_null, ir_ref, ir_null, jr_rf, jun_rf, Option.toList_some, Option.toList_none, List.nil_append, List.cons_append, k9, j9, s0, t0]
          by_cases es : (σ.2.2.2.2.2 i).1 = (σ.2.2.2.2.2 o).1
          · have c3 := x_hasItems (d := d + 1) (i := y) (m := c) sv
            have c4 := x_hasItems (d := d + 1) (i := u) (m := c) tv
            rw [vs] at c3
            rw [ws] at c4
            simp only [if_pos es, if_neg (show ¬ (σ.2.2.2.2.2 i).1 ≠ (σ.2.2.2.2.2 o).1 from fun g => g es), c3, Option.bind_some, Option.bind_none, if_true, if_false, true_or, or_true, false_or, or_false, true_and, and_true, false_and, and_false, decide_eq_true_eq, decide_true, decide_false, eq_self, not_true_eq_false, not_false_eq_true, jfit0, N_lit, N_add, N_mul, NEG_eq, pl_none, pl_some, rf_some, rf_none, jun_ref, jun_null, ir_ref, ir_null, jr_rf, jun_rf, Option.toList_some, Option.toList_none, List.nil_append, List.cons_append]
            rw [b57_76 (h6 := ir_ref) (h7 := ir_ref)]
            cases e3 : hix (σ.2.2.2.2.2 i).2.length y c with
            | none =>
              refine ⟨μ, ?_, XT.refl hb h⟩
              rw [pN_neg (fun g => by obtain ⟨j, hj⟩ := (HI_hix l40).mp g; rw [e3] at hj; cases hj), if_pos (by rfl), b57_91]; rfl
            | some p =>
              rw [pN_pos ((HI_hix l40).mpr ⟨p, e3⟩)]
              simp only [N_lit, n10, if_false, gI9, gR9, pI9, pR9, rv9, Option.bind_some, Option.bind_none, if_true, if_false, true_or, or_true, false_or, or_false, true_and, and_true, false_and, and_false, decide_eq_true_eq, decide_true, decide_false, eq_self, not_true_eq_false, not_false_eq_true, jfit0, N_lit, N_add, N_mul, NEG_eq, pl_none, pl_some, rf_some, rf_none, jun_ref, jun_null, ir_ref, ir_null, jr_rf, jun_rf, Option.toList_some, Option.toList_none, List.nil_append, List.cons_append, j9, c4]
              rw [b57_88 (h6 := ir_ref) (h7 := ir_ref)]
              cases e4 : hix (σ.2.2.2.2.2 o).2.length u c with
              | none =>
                refine ⟨μ, ?_, XT.refl hb h⟩
                rw [pN_neg (fun g => by obtain ⟨j, hj⟩ := (HI_hix o40).mp g; rw [e4] at hj; cases hj), if_pos (by rfl), b57_91]; rfl
              | some q =>
                obtain ⟨rfl, rfl, hp⟩ := hix_some l40 e3
                obtain ⟨rfl, hpq, hq⟩ := hix_some o40 e4
                have hpq : p.2 = q.2 := by rwa [N_inj (by omega) (by omega)] at hpq
                obtain ⟨⟨-, a2, a3, a4⟩, a5⟩ := id sv
                obtain ⟨⟨b1, b2, b3, b4⟩, b5, b6, b7⟩ := id tv
                have hcp := cp_N (μ := μ) (a := X + 334 + 2 * i + 1) (b := X + 334 + 2 * o + 1) (sp := p.1) (dp := q.1) (n0 := p.2) a3 b3 (by rw [a4]; omega) (by rw [b4]; omega) (by rw [a4]; decide) (by rw [b4]; decide)
                have F : FSh (X + 334 + 2 * o) μ (jrowI μ (X + 334 + 2 * o + 1) (va_cpy (jiv μ (X + 334 + 2 * i + 1)) (jiv μ (X + 334 + 2 * o + 1)) p.1 q.1 p.2)) := by
                  refine Fx.rowI Fx.refl ?_
                  show X + 334 + 2 * o ≤ X + 334 + 2 * o + 1 ∧ _; omega
                have i0 : jiv (jrowI μ (X + 334 + 2 * o + 1) (va_cpy (jiv μ (X + 334 + 2 * i + 1)) (jiv μ (X + 334 + 2 * o + 1)) p.1 q.1 p.2)) (X + 334 + 2 * o) = jiv μ (X + 334 + 2 * o) := iv_rowIn (by omega)
                have V : SV (jrowI μ (X + 334 + 2 * o + 1) (va_cpy (jiv μ (X + 334 + 2 * i + 1)) (jiv μ (X + 334 + 2 * o + 1)) p.1 q.1 p.2)) (X + 334 + 2 * o) := by
                  refine ⟨⟨b1, b2, b3, b4⟩, ?_⟩
                  unfold vS at b5 b6 ⊢
                  rw [i0]; exact ⟨b5, b6, b7⟩
                have evs : vS (jrowI μ (X + 334 + 2 * o + 1) (va_cpy (jiv μ (X + 334 + 2 * i + 1)) (jiv μ (X + 334 + 2 * o + 1)) p.1 q.1 p.2)) (X + 334 + 2 * o) = (σ.2.2.2.2.2 o).2.length := by
                  unfold vS at ws ⊢
                  rw [i0]; exact ws
                have sget : ∀ j, j < (σ.2.2.2.2.2 i).2.length → (σ.2.2.2.2.2 i).2[j]? = some (jiv μ (X + 334 + 2 * i + 1) j) := fun j hj => by
                  rw [← sl]; unfold shL
                  rw [List.getElem?_map, List.getElem?_range (by rw [vs]; exact hj)]; rfl
                have tget : ∀ j, j < (σ.2.2.2.2.2 o).2.length → (σ.2.2.2.2.2 o).2[j]? = some (jiv μ (X + 334 + 2 * o + 1) j) := fun j hj => by
                  rw [← tl]; unfold shL
                  rw [List.getElem?_map, List.getElem?_range (by rw [ws]; exact hj)]; rfl
                have EL : shL (jrowI μ (X + 334 + 2 * o + 1) (va_cpy (jiv μ (X + 334 + 2 * i + 1)) (jiv μ (X + 334 + 2 * o + 1)) p.1 q.1 p.2)) (X + 334 + 2 * o) = lcpy (σ.2.2.2.2.2 i).2 (σ.2.2.2.2.2 o).2 p.1 q.1 p.2 := by
                  refine List.ext_getElem? fun j => ?_
                  unfold shL lcpy
                  rw [evs]
                  have l1 : ((σ.2.2.2.2.2 o).2.take q.1).length = q.1 := by rw [List.length_take]; omega
                  have l2 : (((σ.2.2.2.2.2 i).2.drop p.1).take p.2).length = p.2 := by rw [List.length_take, List.length_drop]; omega
                  by_cases hj : j < (σ.2.2.2.2.2 o).2.length
                  · rw [List.getElem?_map, List.getElem?_range hj]
                    show some (jiv (jrowI μ _ _) (X + 334 + 2 * o + 1) j) = _
                    rw [iv_rowIe]
                    unfold va_cpy
                    by_cases h1 : j < q.1
                    · rw [if_neg (by omega), List.getElem?_append_left (by omega), List.getElem?_take_of_lt h1, tget j hj]
                    · by_cases h2 : j < q.1 + p.2
                      · rw [if_pos (by omega), List.getElem?_append_right (by omega), l1, List.getElem?_append_left (by omega), List.getElem?_take_of_lt (by omega), List.getElem?_drop, sget _ (by omega)]
                      · rw [if_neg (by omega), List.getElem?_append_right (by omega), l1, List.getElem?_append_right (by omega), l2, List.getElem?_drop, tget _ (by omega)]
                        congr 2 <;> omega
                  · rw [List.getElem?_eq_none (by simp; omega), List.getElem?_eq_none (by simp only [List.length_append, l1, l2, List.length_drop]; omega)]
                rw [pN_pos ((HI_hix o40).mpr ⟨q, e4⟩)]
                refine ⟨_, ?_, x_sheet1 hb h ho F V (by rw [i0]; exact t0) EL⟩
                simp only [N_lit, n10, if_false, gI9, gR9, pI9, pR9, rv9, Option.bind_some, Option.bind_none, if_true, if_false, true_or, or_true, false_or, or_false, true_and, and_true, false_and, and_false, decide_eq_true_eq, decide_true, decide_false, eq_self, not_true_eq_false, not_false_eq_true, jfit0, N_lit, N_add, N_mul, NEG_eq, pl_none, pl_some, rf_some, rf_none, jun_ref, jun_null, ir_ref, ir_null, jr_rf, jun_rf, Option.toList_some, Option.toList_none, List.nil_append, List.cons_append, k9, j9, a2, b2, hcp]
          · simp only [if_neg es, if_pos (show (σ.2.2.2.2.2 i).1 ≠ (σ.2.2.2.2.2 o).1 from es)]
            exact ⟨μ, rfl, XT.refl hb h⟩
end TOP
