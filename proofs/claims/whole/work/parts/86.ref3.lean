/-! THE REFERENCE: places, grids copied, rows opened and closed -/
/-- a grid changed, its count of rows too -/
def FM1 (M g : Nat) (μ μ' : jM) : Prop := Fx (fun a => a = M + 1 ∨ SMg M g a) (fun a _ => a = M + 23 + g) μ μ' ∧ ∀ j, j ≠ g → jiv μ' (M + 1) j = jiv μ (M + 1) j
section REF
variable {μ μ' μ'' : jM} {S S' : Nat → Prop} {T T' : Nat → Nat → Prop} {M g h t n w d D i j k x y a c : Nat} {A B : GA}
theorem FM1.refl : FM1 M g μ μ := ⟨Fx.refl, fun _ _ => rfl⟩
theorem FM1.trans (a : FM1 M g μ μ') (b : FM1 M g μ' μ'') : FM1 M g μ μ'' := ⟨Fx.trans a.1 b.1, fun j hj => (b.2 j hj).trans (a.2 j hj)⟩
theorem FMg.f1 (F : FMg M g μ μ') (hg : g < 4) : FM1 M g μ μ' := ⟨F.mono (fun a s => Or.inr s) (fun a j s => s), fun j _ => by
  rw [F.iv (by show ¬ SMg M g (M + 1); unfold SMg; omega)]⟩
theorem FM1.qs (F : FM1 M g μ μ') (hg : g < 4) (hq : QS μ M) : QS μ' M := hq.outx F.1 (fun a j s _ _ => by
  have s : a = M + 23 + g := s
  exact Or.inr (Or.inl (by omega)))
theorem QS.ro (h : QS μ M) (hg : g < 4) : jaI μ (.ref (M + 1)) (N g) = some (jiv μ (M + 1) g) := by
  have k1 := h.kd (o := 1) (by decide) rfl
  exact ent_get k1.1 k1.2 hg (by decide)
theorem QS.rs {v : Int32} (h : QS μ M) (hg : g < 4) : jsI μ (.ref (M + 1)) (N g) v = some (jsetI μ (M + 1) g v) := by
  have k1 := h.kd (o := 1) (by decide) rfl
  exact ent_set k1.1 k1.2 hg (by decide)
/-- the other grids stay -/
theorem FM1.other (F : FM1 M g μ μ') (hg : g < 4) (hh : h < 4) (hne : h ≠ g) : rG μ' (mA M h) = rG μ (mA M h) ∧ vN μ' (mA M h) = vN μ (mA M h) := by
  have n : ∀ a, a = M + 3 + h ∨ a = M + 8 + h ∨ a = M + 13 + h ∨ a = M + 18 + h → jiv μ' a = jiv μ a := fun a ha => F.1.iv (by show ¬ (a = M + 1 ∨ SMg M g a); unfold SMg; omega)
  refine rG_same (A := mA M h) (F.2 h hne) (n _ (Or.inl rfl)) (n _ (Or.inr (Or.inl rfl))) (n _ (Or.inr (Or.inr (Or.inl rfl)))) ?_ (n _ (Or.inr (Or.inr (Or.inr rfl))))
  funext j
  exact F.1.rv (by show ¬ (M + 23 + h = M + 23 + g); omega)
theorem FM1.gq (F : FM1 M g μ μ') (hg : g < 4) (hne : h ≠ g) (hG : GQ μ M h) : GQ μ' M h := by
  obtain ⟨h4, h1, h2, h3⟩ := hG
  obtain ⟨-, e⟩ := F.other hg h4 hne
  exact ⟨h4, by rw [e, F.2 h hne]; exact h1, by rw [e]; exact h2, fun j b hb => by
    rw [F.1.rv (by show ¬ (M + 23 + h = M + 23 + g); omega)] at hb
    rw [F.1.kk]; exact h3 j b hb⟩
theorem r_placeOf (hq : QS μ M) (hG : GQ μ M g) (k : Int32) : jC d 194 [.ref M, .int (N g), .int k] μ = some (some (.int (pl (lfind k (rG μ (mA M g))))), μ) := by
  obtain ⟨hg, h1, h8, hf⟩ := hG
  obtain ⟨f0, f1, -⟩ := hq.f
  obtain ⟨a1, -⟩ := hq.gr hg
  obtain ⟨g1, -⟩ := hq.gk hg
  have k13 := hq.k13
  have hro := hq.ro hg
  rw [h1] at hro
  have loop : ∀ (m i : Nat), i + m = vN μ (mA M g) → (∀ j, j < i → jiv μ (M + 3 + g) j ≠ k) → jR d 194 2 [.ref M, .int (N g), .int k, .int (N i)] [] μ = some (some (.int (pl (lfind k (rG μ (mA M g))))), μ) := by
    intro m
    induction m with
    | zero =>
      intro i hi hno
      rw [Nat.add_zero] at hi
      have e : lfind k (rG μ (mA M g)) = none := lfind_none (fun j hj => hno j (by omega))
      rw [b194_2, e]
      simp only [gI13, gR13, pI13, pR13, rv13, Option.bind_some, Option.bind_none, if_true, if_false, true_or, or_true, false_or, or_false, true_and, and_true, false_and, and_false, decide_eq_true_eq, decide_true, decide_false, eq_self, not_true_eq_false, not_false_eq_true, jfit0, N_lit, N_add, N_mul, NEG_eq, pl_none, pl_some, rf_some, rf_none, jun_ref, jun_null, ir_ref, ir_null, jr_rf, jun_rf, Option.toList_some, Option.toList_none, List.nil_append, List.cons_append, k13, f0, hro, N_lt (show i < 2147483648 by omega) (show vN μ (mA M g) < 2147483648 by omega), show ¬ i < vN μ (mA M g) by omega]
    | succ m ih =>
      intro i hi hno
      have hil : i < vN μ (mA M g) := by omega
      have e1 := ent_get (μ := μ) g1.1 g1.2 (show i < 8 by omega) (by decide)
      rw [b194_2]
      simp only [gI13, gR13, pI13, pR13, rv13, Option.bind_some, Option.bind_none, if_true, if_false, true_or, or_true, false_or, or_false, true_and, and_true, false_and, and_false, decide_eq_true_eq, decide_true, decide_false, eq_self, not_true_eq_false, not_false_eq_true, jfit0, N_lit, N_add, N_mul, NEG_eq, pl_none, pl_some, rf_some, rf_none, jun_ref, jun_null, ir_ref, ir_null, jr_rf, jun_rf, Option.toList_some, Option.toList_none, List.nil_append, List.cons_append, k13, f0, f1, a1, hro, N_lt (show i < 2147483648 by omega) (show vN μ (mA M g) < 2147483648 by omega), hil, e1]
      by_cases e : jiv μ (M + 3 + g) i = k
      · have e2 : lfind k (rG μ (mA M g)) = some i := lfind_some hil hno e
        rw [if_pos e, e2]; rfl
      · rw [if_neg e]
        exact ih (i + 1) (by omega) (fun j hj => by
          by_cases ej : j = i
          · subst ej; exact e
          · exact hno j (by omega))
  rw [jC_run (by decide)]
  show jR d 194 0 [.ref M, .int (N g), .int k, .retAddr 0] [] μ = _
  rw [b194_0]
  simp only [N_lit]
  exact loop (vN μ (mA M g)) 0 (by omega) (fun j hj => by omega)
theorem rowAt_same (h1 : jiv μ' (A.1 1) = jiv μ (A.1 1)) (h2 : ∀ z, rc μ' A z = rc μ A z) : rowAt μ' A i = rowAt μ A i := by
  unfold rowAt
  rw [h1, h2, h2, h2]
theorem RWN_get (h : i < n) : (RWN μ A n)[i]? = some (rowAt μ A i) := mkL_get h
theorem len_RWN : (RWN μ A n).length = n := len_mkL
theorem FMg.fx (F : FMg M h μ μ') (hne : g ≠ h) (hg : g < 4) (hh : h < 4) : jiv μ' (M + 3 + g) = jiv μ (M + 3 + g) ∧ (∀ z, rc μ' (mA M g) z = rc μ (mA M g) z) := by
  have n : ∀ a, a = M + 3 + g ∨ a = M + 8 + g ∨ a = M + 13 + g ∨ a = M + 18 + g → jiv μ' a = jiv μ a := fun a ha => F.iv (by show ¬ SMg M h a; unfold SMg; omega)
  refine ⟨n _ (Or.inl rfl), fun z => ?_⟩
  have a1 : jiv μ' ((mA M g).1 2) = jiv μ ((mA M g).1 2) := n _ (Or.inr (Or.inl rfl))
  have a2 : jiv μ' ((mA M g).1 3) = jiv μ ((mA M g).1 3) := n _ (Or.inr (Or.inr (Or.inl rfl)))
  have a3 : jiv μ' ((mA M g).1 5) = jiv μ ((mA M g).1 5) := n _ (Or.inr (Or.inr (Or.inr rfl)))
  have a4 : jrv μ' ((mA M g).1 4) z = jrv μ ((mA M g).1 4) z := F.rv (by show ¬ (M + 23 + g = M + 23 + h); omega)
  unfold rc
  rw [a1, a2, a3, a4]
theorem jk_cpC : jk (cpC μ A x B y) = jk μ := by
  unfold cpC putT putC
  simp only [jk_setI, jk_setR]
theorem jk_cpR : jk (cpR μ A i B k) = jk μ := by
  unfold cpR
  simp only [jk_cpC, jk_setI]
/-- refs of a changed grid -/
theorem cpR_ref (hf : ∀ j b, jrv μ (M + 23 + g) j = some b → jk μ b = 20) (hf' : ∀ j b, jrv μ (M + 23 + h) j = some b → jk μ b = 20) : ∀ j b, jrv (cpR μ (mA M g) i (mA M h) k) (M + 23 + h) j = some b → jk (cpR μ (mA M g) i (mA M h) k) b = 20 := by
  rw [jk_cpR]
  have step : ∀ (μ0 : jM) (x y : Nat), (∀ b, jk μ0 b = jk μ b) → (∀ j b, jrv μ0 (M + 23 + g) j = some b → jk μ b = 20) → (∀ j b, jrv μ0 (M + 23 + h) j = some b → jk μ b = 20) → (∀ j b, jrv (cpC μ0 (mA M g) x (mA M h) y) (M + 23 + g) j = some b → jk μ b = 20) ∧ ∀ j b, jrv (cpC μ0 (mA M g) x (mA M h) y) (M + 23 + h) j = some b → jk μ b = 20 := by
    intro μ0 x y hk h1 h2
    constructor
    · intro j b hb
      have hb : (if M + 23 + g = M + 23 + h ∧ j = y then jrv μ0 (M + 23 + g) x else jrv μ0 (M + 23 + g) j) = some b := hb
      split at hb
      · exact h1 x b hb
      · exact h1 j b hb
    · intro j b hb
      have hb : (if M + 23 + h = M + 23 + h ∧ j = y then jrv μ0 (M + 23 + g) x else jrv μ0 (M + 23 + h) j) = some b := hb
      split at hb
      · exact h1 x b hb
      · exact h2 j b hb
  obtain ⟨s1, s2⟩ := step (jsetI μ ((mA M h).1 1) k (jiv μ ((mA M g).1 1) i)) (i * 3) (k * 3) (fun _ => rfl) hf hf'
  obtain ⟨s3, s4⟩ := step (cpC (jsetI μ ((mA M h).1 1) k (jiv μ ((mA M g).1 1) i)) (mA M g) (i * 3) (mA M h) (k * 3)) (i * 3 + 1) (k * 3 + 1) (fun b => by rw [jk_cpC, jk_setI]) s1 s2
  unfold cpR
  exact (step (cpC (cpC (jsetI μ ((mA M h).1 1) k (jiv μ ((mA M g).1 1) i)) (mA M g) (i * 3) (mA M h) (k * 3)) (mA M g) (i * 3 + 1) (mA M h) (k * 3 + 1)) (i * 3 + 2) (k * 3 + 2) (fun b => by rw [jk_cpC, jk_cpC, jk_setI]) s3 s4).2
theorem vN_m : vN μ (mA M g) = (jiv μ (M + 1) g).toNatClampNeg := rfl
theorem rG_m : rG μ (mA M g) = RWN μ (mA M g) (vN μ (mA M g)) := rfl
theorem r_copyGrid (hq : QS μ M) (hG : GQ μ M g) (hH : GQ μ M h) (hne : g ≠ h) : ∃ μ', jC (d + 2) 207 [.ref M, .int (N g), .int (N h)] μ = some (none, μ') ∧ FM1 M h μ μ' ∧ GQ μ' M h ∧ rG μ' (mA M h) = rG μ (mA M g) := by
  obtain ⟨hg, g1, g8, gf⟩ := hG
  obtain ⟨hh, i1, i8, hf⟩ := hH
  obtain ⟨f0, f1, -⟩ := hq.f
  have k13 := hq.k13
  have hro := hq.ro hg
  rw [g1] at hro
  generalize hn : vN μ (mA M g) = n at *
  have q1 : QS (jsetI μ (M + 1) h (N n)) M := hq.set
  have F1 : FM1 M h μ (jsetI μ (M + 1) h (N n)) := by
    refine ⟨Fx.setI Fx.refl (Or.inl rfl), fun j hj => ?_⟩
    simp only [ty_setI, ty_setR, ty_rowI, ty_rowR, jk_setI, jk_setR, jk_rowI, jk_rowR, jl_setI, jl_setR, jl_rowI, jl_rowR, sz_setI, sz_setR, sz_rowI, sz_rowR, ext_setI, ext_setR, iv_setI, iv_setR, iv_rowI, iv_rowR, rv_setI, rv_setR, rv_rowI, rv_rowR, iv_setIn, iv_rowIn, rv_setRn, rv_rowRn, iv_rowIe, rv_rowRe, true_and]
    rw [if_neg hj]
  -- from row i on
  have loop : ∀ (m i : Nat) (μ1 : jM), i + m = n → FM1 M h μ μ1 → QS μ1 M → jiv μ1 (M + 1) h = N n → (∀ j b, jrv μ1 (M + 23 + h) j = some b → jk μ1 b = 20) → (∀ j, j < i → (RWN μ1 (mA M h) n)[j]? = some (rowAt μ (mA M g) j)) → ∃ μ', jR (d + 2) 207 14 [.ref M, .int (N g), .int (N h), .int (N i)] [] μ1 = some (none, μ') ∧ FM1 M h μ μ' ∧ GQ μ' M h ∧ rG μ' (mA M h) = rG μ (mA M g) := by
    intro m
    induction m with
    | zero =>
      intro i μ1 hi F q hr hf1 hv
      rw [Nat.add_zero] at hi
      subst hi
      have hv1 : vN μ1 (mA M h) = i := by rw [vN_m, hr, N_nat (by omega)]
      have ro := q.ro hg
      rw [F.2 g hne, g1] at ro
      refine ⟨μ1, ?_, F, ⟨hh, by rw [hv1]; exact hr, by omega, hf1⟩, ?_⟩
      · rw [b207_14]
        simp only [gI13, gR13, pI13, pR13, rv13, Option.bind_some, Option.bind_none, if_true, if_false, true_or, or_true, false_or, or_false, true_and, and_true, false_and, and_false, decide_eq_true_eq, decide_true, decide_false, eq_self, not_true_eq_false, not_false_eq_true, jfit0, N_lit, N_add, N_mul, NEG_eq, pl_none, pl_some, rf_some, rf_none, jun_ref, jun_null, ir_ref, ir_null, jr_rf, jun_rf, Option.toList_some, Option.toList_none, List.nil_append, List.cons_append, q.k13, q.f.1, ro, N_lt (show i < 2147483648 by omega) (show i < 2147483648 by omega), Nat.lt_irrefl]
      · rw [rG_m, rG_m, hv1, hn]
        refine List.ext_getElem? fun j => ?_
        by_cases hj : j < i
        · rw [hv j hj, RWN_get hj]
        · rw [List.getElem?_eq_none (by rw [len_RWN]; omega), List.getElem?_eq_none (by rw [len_RWN]; omega)]
    | succ m ih =>
      intro i μ1 hi F q hr hf1 hv
      have ro := q.ro hg
      rw [F.2 g hne, g1] at ro
      have gf1 : ∀ j b, jrv μ1 (M + 23 + g) j = some b → jk μ1 b = 20 := fun j b hb => by
        rw [F.1.rv (by show ¬ (M + 23 + g = M + 23 + h); omega)] at hb
        rw [F.1.kk]; exact gf j b hb
      have c1 := r_copyRow (d := d) (i := i) (k := i) q hg hh (by omega) (by omega) gf1 hf1
      have Fc : FMg M h μ1 (cpR μ1 (mA M g) i (mA M h) i) := cpR_fr
      have hrow : rowAt μ1 (mA M g) i = rowAt μ (mA M g) i := by
        have o1 : jiv μ1 (M + 3 + g) = jiv μ (M + 3 + g) := F.1.iv (by show ¬ (M + 3 + g = M + 1 ∨ SMg M h (M + 3 + g)); unfold SMg; omega)
        have o2 : jiv μ1 (M + 8 + g) = jiv μ (M + 8 + g) := F.1.iv (by show ¬ (M + 8 + g = M + 1 ∨ SMg M h (M + 8 + g)); unfold SMg; omega)
        have o3 : jiv μ1 (M + 13 + g) = jiv μ (M + 13 + g) := F.1.iv (by show ¬ (M + 13 + g = M + 1 ∨ SMg M h (M + 13 + g)); unfold SMg; omega)
        have o4 : jiv μ1 (M + 18 + g) = jiv μ (M + 18 + g) := F.1.iv (by show ¬ (M + 18 + g = M + 1 ∨ SMg M h (M + 18 + g)); unfold SMg; omega)
        have o5 : ∀ j, jrv μ1 (M + 23 + g) j = jrv μ (M + 23 + g) j := fun j => F.1.rv (by show ¬ (M + 23 + g = M + 23 + h); omega)
        refine rowAt_same o1 (fun z => ?_)
        show (jiv μ1 (M + 8 + g) z, jiv μ1 (M + 13 + g) z, jrv μ1 (M + 23 + g) z, jiv μ1 (M + 18 + g) z) = (jiv μ (M + 8 + g) z, jiv μ (M + 13 + g) z, jrv μ (M + 23 + g) z, jiv μ (M + 18 + g) z)
        rw [o2, o3, o4, o5]
      obtain ⟨μ', v1, v2⟩ := ih (i + 1) (cpR μ1 (mA M g) i (mA M h) i) (by omega) (F.trans (Fc.f1 hh)) (Fc.qs hh q) (by
        rw [Fc.iv (by show ¬ SMg M h (M + 1); unfold SMg; omega)]; exact hr) (fun j b hb => cpR_ref gf1 hf1 j b hb) (fun j hj => by
        rw [RL_cpR (mA_ok hh) (mA_ap hg hh) (mA_key hg hh) (show i < n by omega), List.getElem?_set]
        by_cases e : i = j
        · subst e
          rw [if_pos rfl, if_pos (by rw [len_RWN]; omega), hrow]
        · rw [if_neg e]; exact hv j (by omega))
      refine ⟨μ', ?_, v2⟩
      rw [b207_14]
      simp only [gI13, gR13, pI13, pR13, rv13, Option.bind_some, Option.bind_none, if_true, if_false, true_or, or_true, false_or, or_false, true_and, and_true, false_and, and_false, decide_eq_true_eq, decide_true, decide_false, eq_self, not_true_eq_false, not_false_eq_true, jfit0, N_lit, N_add, N_mul, NEG_eq, pl_none, pl_some, rf_some, rf_none, jun_ref, jun_null, ir_ref, ir_null, jr_rf, jun_rf, Option.toList_some, Option.toList_none, List.nil_append, List.cons_append, q.k13, q.f.1, ro, N_lt (show i < 2147483648 by omega) (show n < 2147483648 by omega), show i < n by omega, c1]
      rw [b207_32]
      simp only [N_lit, N_add]
      exact v1
  obtain ⟨μ', v1, v2⟩ := loop n 0 (jsetI μ (M + 1) h (N n)) (by omega) F1 q1 (by simp [iv_setI]) hf (fun j hj => by omega)
  refine ⟨μ', ?_, v2⟩
  rw [jC_run (by decide)]
  show jR (d + 2) 207 0 [.ref M, .int (N g), .int (N h), .retAddr 0] [] μ = _
  rw [b207_0]
  simp only [gI13, gR13, pI13, pR13, rv13, Option.bind_some, Option.bind_none, if_true, if_false, true_or, or_true, false_or, or_false, true_and, and_true, false_and, and_false, decide_eq_true_eq, decide_true, decide_false, eq_self, not_true_eq_false, not_false_eq_true, jfit0, N_lit, N_add, N_mul, NEG_eq, pl_none, pl_some, rf_some, rf_none, jun_ref, jun_null, ir_ref, ir_null, jr_rf, jun_rf, Option.toList_some, Option.toList_none, List.nil_append, List.cons_append, k13, f0, hro, hq.rs hh]
  exact v1
end REF
