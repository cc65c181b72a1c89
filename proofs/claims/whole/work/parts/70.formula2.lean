/-! A FORMULA made: of what was read; lowered -/
/-- a new formula -/
def NF (μ μ' : jM) (f : Nat) (T : List Tk) (O : List Int32) : Prop := jk μ' f = 5 ∧ jsz μ ≤ f ∧ (∀ D, D ≤ jsz μ → FS μ' D f) ∧ ftk μ' f = T ∧ ford μ' f = O
section MAKEF
variable {μ μ' μ'' μ1 : jM} {q D g d p n w f f0 f1 f2 f3 : Nat} {T : List Tk} {O : List Int32}
/-- four arrays laid into a new formula -/
theorem x_finit (hk : jk μ f = 5) (hf : D ≤ f) (h0 : jk μ f0 = 20 ∧ D ≤ f0) (h1 : jk μ f1 = 20 ∧ D ≤ f1) (h2 : jk μ f2 = 20 ∧ D ≤ f2) (h3 : jk μ f3 = 20 ∧ D ≤ f3) (l0 : jl μ f0 = T.length) (l1 : jl μ f1 = T.length) (l2 : jl μ f2 = T.length) (l3 : jl μ f3 = O.length) (hT : T.length ≤ 40) (hO : O.length ≤ 40) (v0 : ∀ i t, T[i]? = some t → jiv μ f0 i = t.1 ∧ jiv μ f1 i = t.2.1 ∧ jiv μ f2 i = t.2.2) (v3 : ∀ i o, O[i]? = some o → jiv μ f3 i = o) : ∃ μ', jC (d + 1) 80 [.ref f, .ref f0, .ref f1, .ref f2, .ref f3] μ = some (none, μ') ∧ Fx (fun _ => False) (fun a _ => a = f) μ μ' ∧ FS μ' D f ∧ ftk μ' f = T ∧ ford μ' f = O := by
  have F : Fx (fun _ => False) (fun a _ => a = f) μ (jsetR (jsetR (jsetR (jsetR μ f 0 (some f0)) f 1 (some f1)) f 2 (some f2)) f 3 (some f3)) := by
    refine Fx.setR (Fx.setR (Fx.setR (Fx.setR Fx.refl ?_) ?_) ?_) ?_ <;> exact (rfl : f = f)
  have r0 : jrv (jsetR (jsetR (jsetR (jsetR μ f 0 (some f0)) f 1 (some f1)) f 2 (some f2)) f 3 (some f3)) f 0 = some f0 := by simp [rv_setR]
  have r1 : jrv (jsetR (jsetR (jsetR (jsetR μ f 0 (some f0)) f 1 (some f1)) f 2 (some f2)) f 3 (some f3)) f 1 = some f1 := by simp [rv_setR]
  have r2 : jrv (jsetR (jsetR (jsetR (jsetR μ f 0 (some f0)) f 1 (some f1)) f 2 (some f2)) f 3 (some f3)) f 2 = some f2 := by simp [rv_setR]
  have r3 : jrv (jsetR (jsetR (jsetR (jsetR μ f 0 (some f0)) f 1 (some f1)) f 2 (some f2)) f 3 (some f3)) f 3 = some f3 := by simp [rv_setR]
  refine ⟨_, ?_, F, ?_⟩
  · rw [jC_run (by decide)]
    show jR (d + 1) 80 0 [.ref f, .ref f0, .ref f1, .ref f2, .ref f3] [] μ = _
    rw [b80_0 (h1 := ir_ref) (h2 := ir_ref) (h3 := ir_ref) (h4 := ir_ref)]
    simp only [gI5, gR5, pI5, pR5, rv5, aI_eq, aB_eq, aR_eq, sI_eq, sB_eq, sR_eq, Option.bind_some, Option.bind_none, if_true, if_false, true_or, or_true, false_or, or_false, true_and, and_true, false_and, and_false, decide_eq_true_eq, decide_true, decide_false, eq_self, not_true_eq_false, not_false_eq_true, jfit0, N_lit, N_add, N_mul, NEG_eq, pl_none, pl_some, rf_some, rf_none, jun_ref, jun_null, ir_ref, ir_null, jr_rf, jun_rf, Option.toList_some, Option.toList_none, List.nil_append, List.cons_append, jk_setR, hk]
  · have e0 : fa (jsetR (jsetR (jsetR (jsetR μ f 0 (some f0)) f 1 (some f1)) f 2 (some f2)) f 3 (some f3)) f 0 = f0 := by unfold fa; rw [r0]; rfl
    have e1 : fa (jsetR (jsetR (jsetR (jsetR μ f 0 (some f0)) f 1 (some f1)) f 2 (some f2)) f 3 (some f3)) f 1 = f1 := by unfold fa; rw [r1]; rfl
    have e2 : fa (jsetR (jsetR (jsetR (jsetR μ f 0 (some f0)) f 1 (some f1)) f 2 (some f2)) f 3 (some f3)) f 2 = f2 := by unfold fa; rw [r2]; rfl
    have e3 : fa (jsetR (jsetR (jsetR (jsetR μ f 0 (some f0)) f 1 (some f1)) f 2 (some f2)) f 3 (some f3)) f 3 = f3 := by unfold fa; rw [r3]; rfl
    refine ⟨⟨by simp only [jk_setR]; exact hk, hf, fun j hj => ?_, ?_, ?_, ?_, ?_⟩, ?_, ?_⟩
    · rcases (show j = 0 ∨ j = 1 ∨ j = 2 ∨ j = 3 by omega) with rfl | rfl | rfl | rfl
      · rw [e0]; exact ⟨r0, h0.2, by simp only [jk_setR]; exact h0.1⟩
      · rw [e1]; exact ⟨r1, h1.2, by simp only [jk_setR]; exact h1.1⟩
      · rw [e2]; exact ⟨r2, h2.2, by simp only [jk_setR]; exact h2.1⟩
      · rw [e3]; exact ⟨r3, h3.2, by simp only [jk_setR]; exact h3.1⟩
    · rw [e1, e0]; simp only [jl_setR]; omega
    · rw [e2, e0]; simp only [jl_setR]; omega
    · rw [e0]; simp only [jl_setR]; omega
    · rw [e3]; simp only [jl_setR]; omega
    · unfold ftk
      rw [e0, e1, e2]
      simp only [jl_setR, iv_setR, l0]
      refine List.ext_getElem? fun i => ?_
      by_cases hi : i < T.length
      · rw [List.getElem?_map, List.getElem?_range hi]
        obtain ⟨a1, a2, a3⟩ := v0 i T[i] (List.getElem?_eq_getElem hi)
        rw [List.getElem?_eq_getElem hi]
        show some (_, _, _) = _
        rw [a1, a2, a3]
      · rw [List.getElem?_eq_none (by simp; omega), List.getElem?_eq_none (by omega)]
    · unfold ford
      rw [e3]
      simp only [jl_setR, iv_setR, l3]
      refine List.ext_getElem? fun i => ?_
      by_cases hi : i < O.length
      · rw [List.getElem?_map, List.getElem?_range hi]
        have a1 := v3 i O[i] (List.getElem?_eq_getElem hi)
        rw [List.getElem?_eq_getElem hi]
        show some _ = _
        rw [a1]
      · rw [List.getElem?_eq_none (by simp; omega), List.getElem?_eq_none (by omega)]
theorem x_noFormula (hr : RQ μ q) {k : Nat} (hk : jiv μ (q + 5) 2 = N k) (h2 : k < 2) : jC (d + 1) 159 [.ref (q + 5)] μ = some (some .null, μ) := by
  rw [jC_run (by decide)]
  show jR (d + 1) 159 0 [.ref (q + 5)] [] μ = _
  rw [b159_0]
  simp only [gI11, gR11, pI11, pR11, rv11, aI_eq, aB_eq, aR_eq, sI_eq, sB_eq, sR_eq, Option.bind_some, Option.bind_none, if_true, if_false, true_or, or_true, false_or, or_false, true_and, and_true, false_and, and_false, decide_eq_true_eq, decide_true, decide_false, eq_self, not_true_eq_false, not_false_eq_true, jfit0, N_lit, N_add, N_mul, NEG_eq, pl_none, pl_some, rf_some, rf_none, jun_ref, jun_null, ir_ref, ir_null, jr_rf, jun_rf, Option.toList_some, Option.toList_none, List.nil_append, List.cons_append, hr.1.1, hk, N_inj (show k < 2147483648 by omega) (show 2 < 2147483648 by decide), show ¬ k = 2 by omega]
theorem x_formula {ON : List Nat} (hj : JW μ) (hr : RQ μ q) (hk : jiv μ (q + 5) 2 = N 2) (ht : PT μ q T ON) (hT : T.length ≤ 40) (hO : ON.length ≤ 40) : ∃ μ' f, jC (d + 2) 159 [.ref (q + 5)] μ = some (some (.ref f), μ') ∧ Fa (fun _ => False) (fun _ _ => False) 5 164 μ μ' ∧ NF μ μ' f T (ON.map N) := by
  obtain ⟨⟨k5, k6, l6, k7, l7, k8, l8, k9, l9⟩, r0, r4, r5, r6, r8⟩ := hr
  obtain ⟨t7, t9, tT, tO⟩ := ht
  have z5 := hj.lt (ne99 k5 (by decide))
  have z6 := hj.lt (ne99 k6 (by decide))
  have z7 := hj.lt (ne99 k7 (by decide))
  have z8 := hj.lt (ne99 k8 (by decide))
  have z9 := hj.lt (ne99 k9 (by decide))
  have F0 : Fa (fun _ => False) (fun _ _ => False) 1 4 μ (jnew μ 5 0 4) := Fa.new hj
  have kn : jk (jnew μ 5 0 4) (jsz μ) = 5 := nk_e
  have n0 : jsz (jnew μ 5 0 4) = jsz μ + 1 := nsz
  have pre : jC (d + 2) 159 [.ref (q + 5)] μ = (jC (d + 1) 304 [.ref (q + 6), .int (N T.length)] (jnew μ 5 0 4)).bind fun p4 => jR (d + 2) 159 25 [.ref (q + 5)] (p4.1.toList ++ [.ref (jsz μ), .ref (jsz μ)]) p4.2 := by
    rw [jC_run (by decide)]
    show jR (d + 2) 159 0 [.ref (q + 5)] [] μ = _
    rw [b159_0]
    have a1 : jk (jnew μ 5 0 4) (q + 5) = 11 := by rw [nk_n z5]; exact k5
    have a2 : jrv (jnew μ 5 0 4) (q + 5) = jrv μ (q + 5) := nr_n z5
    have a3 : jiv (jnew μ 5 0 4) (q + 5) = jiv μ (q + 5) := nv_n z5
    simp only [gI11, gR11, pI11, pR11, rv11, aI_eq, aB_eq, aR_eq, sI_eq, sB_eq, sR_eq, Option.bind_some, Option.bind_none, if_true, if_false, true_or, or_true, false_or, or_false, true_and, and_true, false_and, and_false, decide_eq_true_eq, decide_true, decide_false, eq_self, not_true_eq_false, not_false_eq_true, jfit0, N_lit, N_add, N_mul, NEG_eq, pl_none, pl_some, rf_some, rf_none, jun_ref, jun_null, ir_ref, ir_null, jr_rf, jun_rf, Option.toList_some, Option.toList_none, List.nil_append, List.cons_append, k5, hk, a1, a2, a3, r4, t7]
  generalize jnew μ 5 0 4 = μ0 at *
  -- the four arrays
  obtain ⟨μ1, c1, G1, s1, k1, l1, v1⟩ := x_copyOf (d := d) (a := q + 6) (n0 := T.length) F0.jw (by rw [F0.kk z6]; exact k6) (by rw [F0.ll z6, l6]; decide) (by omega)
  have F1 := F0.trans G1 (fun _ _ g => g) (fun _ _ _ g => g)
  obtain ⟨μ2, c2, G2, s2, k2, l2, v2⟩ := x_copyOf (d := d) (a := q + 7) (n0 := T.length) F1.jw (by rw [F1.kk z7]; exact k7) (by rw [F1.ll z7, l7]; decide) (by omega)
  have F2 := F1.trans G2 (fun _ _ g => g) (fun _ _ _ g => g)
  obtain ⟨μ3, c3, G3, s3, k3, l3, v3⟩ := x_copyOf (d := d) (a := q + 8) (n0 := T.length) F2.jw (by rw [F2.kk z8]; exact k8) (by rw [F2.ll z8, l8]; decide) (by omega)
  have F3 := F2.trans G3 (fun _ _ g => g) (fun _ _ _ g => g)
  obtain ⟨μ4, c4, G4, s4, k4, l4, v4⟩ := x_copyOf (d := d) (a := q + 9) (n0 := ON.length) F3.jw (by rw [F3.kk z9]; exact k9) (by rw [F3.ll z9, l9]; decide) (by omega)
  have F4 := F3.trans G4 (fun _ _ g => g) (fun _ _ _ g => g)
  obtain ⟨μ5, c5, G5, g1, g2, g3⟩ := x_finit (d := d) (μ := μ4) (f := jsz μ) (f0 := jsz μ0) (f1 := jsz μ1) (f2 := jsz μ2) (f3 := jsz μ3) (D := jsz μ) (T := T) (O := ON.map N)
    (by rw [G4.kk (by omega), G3.kk (by omega), G2.kk (by omega), G1.kk (by omega)]; exact kn) (Nat.le_refl _)
    ⟨by rw [G4.kk (by omega), G3.kk (by omega), G2.kk (by omega)]; exact k1, by omega⟩ ⟨by rw [G4.kk (by omega), G3.kk (by omega)]; exact k2, by omega⟩ ⟨by rw [G4.kk (by omega)]; exact k3, by omega⟩ ⟨k4, by omega⟩
    (by rw [G4.ll (by omega), G3.ll (by omega), G2.ll (by omega)]; exact l1) (by rw [G4.ll (by omega), G3.ll (by omega)]; exact l2) (by rw [G4.ll (by omega)]; exact l3) (by rw [List.length_map]; exact l4) hT (by rw [List.length_map]; exact hO)
    (fun i t hi => by
      have hlt := (List.getElem?_eq_some_iff.mp hi).1
      obtain ⟨a1, a2, a3⟩ := tT i t hi
      refine ⟨?_, ?_, ?_⟩
      · rw [G4.iv (by omega) id, G3.iv (by omega) id, G2.iv (by omega) id, v1 i hlt (by rw [F0.ll z6, l6]; omega), F0.iv z6 id]; exact a1
      · rw [G4.iv (by omega) id, G3.iv (by omega) id, v2 i hlt (by rw [F1.ll z7, l7]; omega), F1.iv z7 id]; exact a2
      · rw [G4.iv (by omega) id, v3 i hlt (by rw [F2.ll z8, l8]; omega), F2.iv z8 id]; exact a3)
    (fun i o hi => by
      rw [List.getElem?_map] at hi
      cases e : ON[i]? with
      | none => rw [e] at hi; cases hi
      | some x =>
        rw [e] at hi
        cases hi
        have hlt := (List.getElem?_eq_some_iff.mp e).1
        rw [v4 i hlt (by rw [F3.ll z9, l9]; omega), F3.iv z9 id]
        exact tO i x e)
  have F5 := F4.trans (G5.fa F4.jw) (fun _ _ g => g) (fun a j ha g => by
    have g : a = jsz μ := g
    omega)
  refine ⟨μ5, jsz μ, ?_, F5.mono (fun _ _ g => g) (fun _ _ _ g => g) (by omega) (by omega), g1.1, Nat.le_refl _, fun D' hD' => ?_, g2, g3⟩
  · rw [pre, c1]
    simp only [aI_eq, aB_eq, aR_eq, sI_eq, sB_eq, sR_eq, Option.bind_some, Option.bind_none, if_true, if_false, true_or, or_true, false_or, or_false, true_and, and_true, false_and, and_false, decide_eq_true_eq, decide_true, decide_false, eq_self, not_true_eq_false, not_false_eq_true, jfit0, N_lit, N_add, N_mul, NEG_eq, pl_none, pl_some, rf_some, rf_none, jun_ref, jun_null, ir_ref, ir_null, jr_rf, jun_rf, Option.toList_some, Option.toList_none, List.nil_append, List.cons_append]
    have e1 : jk μ1 (q + 5) = 11 ∧ jrv μ1 (q + 5) = jrv μ (q + 5) ∧ jiv μ1 (q + 5) = jiv μ (q + 5) := ⟨by rw [F1.kk z5]; exact k5, by funext j; exact F1.rv z5 id, F1.iv z5 id⟩
    have e2 : jk μ2 (q + 5) = 11 ∧ jrv μ2 (q + 5) = jrv μ (q + 5) ∧ jiv μ2 (q + 5) = jiv μ (q + 5) := ⟨by rw [F2.kk z5]; exact k5, by funext j; exact F2.rv z5 id, F2.iv z5 id⟩
    have e3 : jk μ3 (q + 5) = 11 ∧ jrv μ3 (q + 5) = jrv μ (q + 5) ∧ jiv μ3 (q + 5) = jiv μ (q + 5) := ⟨by rw [F3.kk z5]; exact k5, by funext j; exact F3.rv z5 id, F3.iv z5 id⟩
    rw [b159_25 (hs2 := ir_ref)]
    simp only [gI11, gR11, pI11, pR11, rv11, aI_eq, aB_eq, aR_eq, sI_eq, sB_eq, sR_eq, Option.bind_some, Option.bind_none, if_true, if_false, true_or, or_true, false_or, or_false, true_and, and_true, false_and, and_false, decide_eq_true_eq, decide_true, decide_false, eq_self, not_true_eq_false, not_false_eq_true, jfit0, N_lit, N_add, N_mul, NEG_eq, pl_none, pl_some, rf_some, rf_none, jun_ref, jun_null, ir_ref, ir_null, jr_rf, jun_rf, Option.toList_some, Option.toList_none, List.nil_append, List.cons_append, e1, r5, t7, c2]
    rw [b159_36 (hs3 := ir_ref) (hs2 := ir_ref)]
    simp only [gI11, gR11, pI11, pR11, rv11, aI_eq, aB_eq, aR_eq, sI_eq, sB_eq, sR_eq, Option.bind_some, Option.bind_none, if_true, if_false, true_or, or_true, false_or, or_false, true_and, and_true, false_and, and_false, decide_eq_true_eq, decide_true, decide_false, eq_self, not_true_eq_false, not_false_eq_true, jfit0, N_lit, N_add, N_mul, NEG_eq, pl_none, pl_some, rf_some, rf_none, jun_ref, jun_null, ir_ref, ir_null, jr_rf, jun_rf, Option.toList_some, Option.toList_none, List.nil_append, List.cons_append, e2, r6, t7, c3]
    rw [b159_47 (hs4 := ir_ref) (hs3 := ir_ref) (hs2 := ir_ref)]
    simp only [gI11, gR11, pI11, pR11, rv11, aI_eq, aB_eq, aR_eq, sI_eq, sB_eq, sR_eq, Option.bind_some, Option.bind_none, if_true, if_false, true_or, or_true, false_or, or_false, true_and, and_true, false_and, and_false, decide_eq_true_eq, decide_true, decide_false, eq_self, not_true_eq_false, not_false_eq_true, jfit0, N_lit, N_add, N_mul, NEG_eq, pl_none, pl_some, rf_some, rf_none, jun_ref, jun_null, ir_ref, ir_null, jr_rf, jun_rf, Option.toList_some, Option.toList_none, List.nil_append, List.cons_append, e3, r8, t9, c4]
    rw [b159_58 (hs5 := ir_ref) (hs4 := ir_ref) (hs3 := ir_ref) (hs2 := ir_ref)]
    simp only [aI_eq, aB_eq, aR_eq, sI_eq, sB_eq, sR_eq, Option.bind_some, Option.bind_none, if_true, if_false, true_or, or_true, false_or, or_false, true_and, and_true, false_and, and_false, decide_eq_true_eq, decide_true, decide_false, eq_self, not_true_eq_false, not_false_eq_true, jfit0, N_lit, N_add, N_mul, NEG_eq, pl_none, pl_some, rf_some, rf_none, jun_ref, jun_null, ir_ref, ir_null, jr_rf, jun_rf, Option.toList_some, Option.toList_none, List.nil_append, List.cons_append, c5, b159_61]
  · obtain ⟨a1, a2, a3, a4, a5, a6, a7⟩ := g1
    exact ⟨a1, by omega, fun j hj => ⟨(a3 j hj).1, by have := (a3 j hj).2.1; omega, (a3 j hj).2.2⟩, a4, a5, a6, a7⟩
end MAKEF
