/-! CLASHES AND RULES of the class -/
abbrev CL : Type := Int32 × Int32 × Int32 × Int32
def cN (μ : jM) (a : Nat) : Nat := (jiv μ a 0).toNatClampNeg
def cL (μ : jM) (a : Nat) : List CL := (List.range (cN μ a)).map fun i => (jiv μ (a + 1) i, jiv μ (a + 2) i, jiv μ (a + 3) i, jiv μ (a + 4) i)
def CV (μ : jM) (a : Nat) : Prop :=
  (jk μ a = 4 ∧ jk μ (a + 1) = 20 ∧ jl μ (a + 1) = 48 ∧ jk μ (a + 2) = 20 ∧ jl μ (a + 2) = 48 ∧ jk μ (a + 3) = 20 ∧ jl μ (a + 3) = 48 ∧ jk μ (a + 4) = 20 ∧ jl μ (a + 4) = 48) ∧
  (jrv μ a 1 = some (a + 1) ∧ jrv μ a 2 = some (a + 2) ∧ jrv μ a 3 = some (a + 3) ∧ jrv μ a 4 = some (a + 4)) ∧
  jiv μ a 0 = N (cN μ a) ∧ cN μ a ≤ 48
def FC (a : Nat) (μ μ' : jM) : Prop := Fx (fun x => a ≤ x ∧ x < a + 5) (fun _ _ => False) μ μ'
section CLASH
variable {μ μ' μ'' : jM} {a b d : Nat}
theorem len_cL : (cL μ a).length = cN μ a := by simp [cL]
theorem cL_get {i : Nat} (hi : i < cN μ a) : (cL μ a)[i]? = some (jiv μ (a + 1) i, jiv μ (a + 2) i, jiv μ (a + 3) i, jiv μ (a + 4) i) := by
  unfold cL
  rw [List.getElem?_map, List.getElem?_range hi]; rfl
theorem CV.out {S : Nat → Prop} {T : Nat → Nat → Prop} (hc : CV μ a) (F : Fx S T μ μ') (hS : ∀ x, S x → x < a ∨ a + 5 ≤ x) (hT : ∀ x j, T x j → x < a ∨ a + 5 ≤ x) : CV μ' a ∧ cL μ' a = cL μ a := by
  obtain ⟨h1, h2, h3⟩ := hc
  have hi : ∀ j, j < 5 → jiv μ' (a + j) = jiv μ (a + j) := fun j hj => F.iv (fun k => by have := hS _ k; omega)
  have hr : ∀ j, jrv μ' a j = jrv μ a j := fun j => F.rv (fun k => by have := hT _ _ k; omega)
  have h0 := hi 0 (by omega)
  simp only [Nat.add_zero] at h0
  have e : cN μ' a = cN μ a := by unfold cN; rw [h0]
  refine ⟨⟨by rw [F.kk, F.ll]; exact h1, by rw [hr, hr, hr, hr]; exact h2, by rw [e, h0]; exact h3⟩, ?_⟩
  unfold cL
  rw [e, hi 1 (by omega), hi 2 (by omega), hi 3 (by omega), hi 4 (by omega)]
theorem d_clear (hc : CV μ a) : ∃ μ', jC d 75 [.ref a] μ = some (none, μ') ∧ FC a μ μ' ∧ CV μ' a ∧ cL μ' a = [] := by
  obtain ⟨h1, h2, h3⟩ := hc
  have e : cN (jsetI μ a 0 (N 0)) a = 0 := by simp only [cN, ty_setI, ty_setR, ty_rowI, ty_rowR, jk_setI, jk_setR, jk_rowI, jk_rowR, jl_setI, jl_setR, jl_rowI, jl_rowR, sz_setI, sz_setR, sz_rowI, sz_rowR, ext_setI, ext_setR, iv_setI, iv_setR, iv_rowI, iv_rowR, rv_setI, rv_setR, rv_rowI, rv_rowR, iv_setIn, iv_rowIn, rv_setRn, rv_rowRn, iv_rowIe, rv_rowRe, and_self, if_true]; rfl
  refine ⟨jsetI μ a 0 (N 0), ?_, Fx.refl.setI (by show a ≤ a ∧ a < a + 5; omega), ⟨h1, h2, ?_, by rw [e]; omega⟩, ?_⟩
  · rw [jC_run (by decide)]
    show jR d 75 0 [.ref a] [] μ = _
    rw [b75_0]
    simp only [gI4, gR4, pI4, pR4, rv4, aI_eq, aB_eq, aR_eq, sI_eq, sB_eq, sR_eq, Option.bind_some, Option.bind_none, if_true, if_false, true_or, or_true, false_or, or_false, true_and, and_true, false_and, and_false, decide_eq_true_eq, decide_true, decide_false, eq_self, not_true_eq_false, not_false_eq_true, jfit0, N_lit, N_add, N_mul, NEG_eq, pl_none, pl_some, rf_some, rf_none, jun_ref, jun_null, ir_ref, ir_null, jr_rf, jun_rf, Option.toList_some, Option.toList_none, List.nil_append, List.cons_append, h1]
  · rw [e]; simp only [ty_setI, ty_setR, ty_rowI, ty_rowR, jk_setI, jk_setR, jk_rowI, jk_rowR, jl_setI, jl_setR, jl_rowI, jl_rowR, sz_setI, sz_setR, sz_rowI, sz_rowR, ext_setI, ext_setR, iv_setI, iv_setR, iv_rowI, iv_rowR, rv_setI, rv_setR, rv_rowI, rv_rowR, iv_setIn, iv_rowIn, rv_setRn, rv_rowRn, iv_rowIe, rv_rowRe, and_self, if_true]
  · unfold cL; rw [e]; rfl
theorem d_add {k y c : Int32} (hc : CV μ a) (h48 : (cL μ a).length < 48) : ∃ μ', jC d 76 [.ref a, .int k, .int y, .int c] μ = some (none, μ') ∧ FC a μ μ' ∧ CV μ' a ∧ cL μ' a = cL μ a ++ [(k, y, c, N 0)] := by
  obtain ⟨h1, h2, h3, h4⟩ := hc
  rw [len_cL] at h48
  generalize hs : cN μ a = s at *
  have bs : s < 2147483648 := by omega
  have b48 : (48 : Nat) < 2147483648 := by decide
  obtain ⟨m, hm⟩ : ∃ m, m = jsetI (jsetI (jsetI (jsetI (jsetI μ (a + 1) s k) (a + 2) s y) (a + 3) s c) (a + 4) s (N 0)) a 0 (N (s + 1)) := ⟨_, rfl⟩
  have e : cN m a = s + 1 := by
    rw [hm]
    simp only [cN, ty_setI, ty_setR, ty_rowI, ty_rowR, jk_setI, jk_setR, jk_rowI, jk_rowR, jl_setI, jl_setR, jl_rowI, jl_rowR, sz_setI, sz_setR, sz_rowI, sz_rowR, ext_setI, ext_setR, iv_setI, iv_setR, iv_rowI, iv_rowR, rv_setI, rv_setR, rv_rowI, rv_rowR, iv_setIn, iv_rowIn, rv_setRn, rv_rowRn, iv_rowIe, rv_rowRe, and_self, if_true]
    exact N_nat (by omega)
  refine ⟨m, ?_, ?_, ⟨by rw [hm]; exact h1, by rw [hm]; exact h2, ?_, by rw [e]; omega⟩, ?_⟩
  · rw [jC_run (by decide)]
    show jR d 76 0 [.ref a, .int k, .int y, .int c] [] μ = _
    rw [b76_0, hm]
    simp only [gI4, gR4, pI4, pR4, rv4, aI_eq, aB_eq, aR_eq, sI_eq, sB_eq, sR_eq, Option.bind_some, Option.bind_none, if_true, if_false, true_or, or_true, false_or, or_false, true_and, and_true, false_and, and_false, decide_eq_true_eq, decide_true, decide_false, eq_self, not_true_eq_false, not_false_eq_true, jfit0, N_lit, N_add, N_mul, NEG_eq, pl_none, pl_some, rf_some, rf_none, jun_ref, jun_null, ir_ref, ir_null, jr_rf, jun_rf, Option.toList_some, Option.toList_none, List.nil_append, List.cons_append, ty_setI, ty_setR, ty_rowI, ty_rowR, jk_setI, jk_setR, jk_rowI, jk_rowR, jl_setI, jl_setR, jl_rowI, jl_rowR, sz_setI, sz_setR, sz_rowI, sz_rowR, ext_setI, ext_setR, iv_setI, iv_setR, iv_rowI, iv_rowR, rv_setI, rv_setR, rv_rowI, rv_rowR, iv_setIn, iv_rowIn, rv_setRn, rv_rowRn, iv_rowIe, rv_rowRe, h1, h2, h3, N_lt bs b48, h48, jinb_N bs, N_nat bs, show ¬ a = a + 1 by omega, show ¬ a = a + 2 by omega, show ¬ a = a + 3 by omega, show ¬ a = a + 4 by omega, b76_59]
  · rw [hm]
    exact ((((Fx.refl.setI (by show a ≤ a + 1 ∧ a + 1 < a + 5; omega)).setI (by show a ≤ a + 2 ∧ a + 2 < a + 5; omega)).setI (by show a ≤ a + 3 ∧ a + 3 < a + 5; omega)).setI (by show a ≤ a + 4 ∧ a + 4 < a + 5; omega)).setI (by show a ≤ a ∧ a < a + 5; omega)
  · rw [e, hm]; simp only [ty_setI, ty_setR, ty_rowI, ty_rowR, jk_setI, jk_setR, jk_rowI, jk_rowR, jl_setI, jl_setR, jl_rowI, jl_rowR, sz_setI, sz_setR, sz_rowI, sz_rowR, ext_setI, ext_setR, iv_setI, iv_setR, iv_rowI, iv_rowR, rv_setI, rv_setR, rv_rowI, rv_rowR, iv_setIn, iv_rowIn, rv_setRn, rv_rowRn, iv_rowIe, rv_rowRe, and_self, if_true]
  · unfold cL
    rw [e, List.range_succ, List.map_append, hs]
    congr 1
    · refine List.map_congr_left fun i hi => ?_
      have hi := List.mem_range.mp hi
      rw [hm]
      simp only [ty_setI, ty_setR, ty_rowI, ty_rowR, jk_setI, jk_setR, jk_rowI, jk_rowR, jl_setI, jl_setR, jl_rowI, jl_rowR, sz_setI, sz_setR, sz_rowI, sz_rowR, ext_setI, ext_setR, iv_setI, iv_setR, iv_rowI, iv_rowR, rv_setI, rv_setR, rv_rowI, rv_rowR, iv_setIn, iv_rowIn, rv_setRn, rv_rowRn, iv_rowIe, rv_rowRe, show ¬ a + 1 = a by omega, show ¬ a + 1 = a + 2 by omega, show ¬ a + 1 = a + 3 by omega, show ¬ a + 1 = a + 4 by omega, show ¬ a + 2 = a by omega, show ¬ a + 2 = a + 3 by omega, show ¬ a + 2 = a + 4 by omega, show ¬ a + 3 = a by omega, show ¬ a + 3 = a + 4 by omega, show ¬ a + 4 = a by omega, show ¬ i = s by omega, false_and, and_false, if_false]
    · rw [hm]
      simp only [List.map_cons, List.map_nil, ty_setI, ty_setR, ty_rowI, ty_rowR, jk_setI, jk_setR, jk_rowI, jk_rowR, jl_setI, jl_setR, jl_rowI, jl_rowR, sz_setI, sz_setR, sz_rowI, sz_rowR, ext_setI, ext_setR, iv_setI, iv_setR, iv_rowI, iv_rowR, rv_setI, rv_setR, rv_rowI, rv_rowR, iv_setIn, iv_rowIn, rv_setRn, rv_rowRn, iv_rowIe, rv_rowRe, show ¬ a + 1 = a by omega, show ¬ a + 1 = a + 2 by omega, show ¬ a + 1 = a + 3 by omega, show ¬ a + 1 = a + 4 by omega, show ¬ a + 2 = a by omega, show ¬ a + 2 = a + 3 by omega, show ¬ a + 2 = a + 4 by omega, show ¬ a + 3 = a by omega, show ¬ a + 3 = a + 4 by omega, show ¬ a + 4 = a by omega, and_self, false_and, and_false, if_false, if_true]
theorem cbecome_list {l : List CL} {s : Nat} : (l.map fun c : CL => ((c.1, c.2.1, c.2.2.1, N 0) : CL)).take (s + 1) = (l.map fun c : CL => ((c.1, c.2.1, c.2.2.1, N 0) : CL)).take s ++ (l[s]?.map fun c : CL => ((c.1, c.2.1, c.2.2.1, N 0) : CL)).toList := by
  rw [List.take_succ, List.getElem?_map]
theorem d_cbecome (hc : CV μ a) (hb : CV μ b) (hd : a + 5 ≤ b ∨ b + 5 ≤ a) : ∃ μ', jC (d + 1) 77 [.ref a, .ref b] μ = some (none, μ') ∧ FC a μ μ' ∧ CV μ' a ∧ cL μ' a = (cL μ b).map fun c : CL => ((c.1, c.2.1, c.2.2.1, N 0) : CL) := by
  obtain ⟨m0, r1, r2, r3, r4⟩ := d_clear (d := d) hc
  have h48 := hb.2.2.2
  have loop : ∀ k i m, i + k = cN μ b → FC a μ m → CV m a → cL m a = ((cL μ b).map fun c : CL => ((c.1, c.2.1, c.2.2.1, N 0) : CL)).take i → ∃ μ', jR (d + 1) 77 6 [.ref a, .ref b, .int (N i)] [] m = some (none, μ') ∧ FC a μ μ' ∧ CV μ' a ∧ cL μ' a = (cL μ b).map fun c : CL => ((c.1, c.2.1, c.2.2.1, N 0) : CL) := by
    intro k
    induction k with
    | zero =>
      intro i m hi hF hV hL
      have hi : i = cN μ b := hi
      obtain ⟨hb', -⟩ := hb.out hF (fun x hx => by omega) (fun x j h => h.elim)
      have e : cN m b = cN μ b := by
        have h0 : jiv m b = jiv μ b := hF.iv (by omega)
        unfold cN; rw [h0]
      refine ⟨m, ?_, hF, hV, ?_⟩
      · rw [b77_6 (h1 := ir_ref)]
        simp only [gI4, gR4, pI4, pR4, rv4, aI_eq, aB_eq, aR_eq, sI_eq, sB_eq, sR_eq, Option.bind_some, Option.bind_none, if_true, if_false, true_or, or_true, false_or, or_false, true_and, and_true, false_and, and_false, decide_eq_true_eq, decide_true, decide_false, eq_self, not_true_eq_false, not_false_eq_true, jfit0, N_lit, N_add, N_mul, NEG_eq, pl_none, pl_some, rf_some, rf_none, jun_ref, jun_null, ir_ref, ir_null, jr_rf, jun_rf, Option.toList_some, Option.toList_none, List.nil_append, List.cons_append, hb'.1, hb'.2.2.1, e, hi, N_lt (show cN μ b < 2147483648 by omega) (show cN μ b < 2147483648 by omega), Nat.lt_irrefl]
      · rw [hL, List.take_of_length_le]
        rw [List.length_map, len_cL]; omega
    | succ k ih =>
      intro i m hi hF hV hL
      have bi : i < 2147483648 := by omega
      have hi2 : i < cN μ b := by omega
      obtain ⟨hb', eL⟩ := hb.out hF (fun x hx => by omega) (fun x j h => h.elim)
      have e : cN m b = cN μ b := by
        have h0 : jiv m b = jiv μ b := hF.iv (by omega)
        unfold cN; rw [h0]
      have hlen : (cL m a).length < 48 := by
        rw [hL, List.length_take, List.length_map, len_cL]; omega
      obtain ⟨m2, q1, q2, q3, q4⟩ := d_add (d := d) (k := jiv m (b + 1) i) (y := jiv m (b + 2) i) (c := jiv m (b + 3) i) hV hlen
      obtain ⟨μ', s1, s2⟩ := ih (i + 1) m2 (by omega) (Fx.trans hF q2) q3 (by
        rw [q4, hL, cbecome_list]
        congr 1
        rw [← eL, cL_get (by rw [e]; exact hi2)]
        rfl)
      refine ⟨μ', ?_, s2⟩
      rw [b77_6 (h1 := ir_ref)]
      simp only [gI4, gR4, pI4, pR4, rv4, aI_eq, aB_eq, aR_eq, sI_eq, sB_eq, sR_eq, Option.bind_some, Option.bind_none, if_true, if_false, true_or, or_true, false_or, or_false, true_and, and_true, false_and, and_false, decide_eq_true_eq, decide_true, decide_false, eq_self, not_true_eq_false, not_false_eq_true, jfit0, N_lit, N_add, N_mul, NEG_eq, pl_none, pl_some, rf_some, rf_none, jun_ref, jun_null, ir_ref, ir_null, jr_rf, jun_rf, Option.toList_some, Option.toList_none, List.nil_append, List.cons_append, hb'.1, hb'.2.1, hb'.2.2.1, e, N_lt bi (show cN μ b < 2147483648 by omega), hi2, jinb_N bi, show i < 48 by omega, N_nat bi, hV.1, q1, b77_36]
      exact s1
  obtain ⟨μ', s1, s2⟩ := loop (cN μ b) 0 m0 (by omega) r2 r3 (by rw [r4]; rfl)
  refine ⟨μ', ?_, s2⟩
  rw [jC_run (by decide)]
  show jR (d + 1) 77 0 [.ref a, .ref b, .retAddr 0] [] μ = _
  rw [b77_0 (h1 := ir_ref)]
  simp only [gI4, gR4, pI4, pR4, rv4, aI_eq, aB_eq, aR_eq, sI_eq, sB_eq, sR_eq, Option.bind_some, Option.bind_none, if_true, if_false, true_or, or_true, false_or, or_false, true_and, and_true, false_and, and_false, decide_eq_true_eq, decide_true, decide_false, eq_self, not_true_eq_false, not_false_eq_true, jfit0, N_lit, N_add, N_mul, NEG_eq, pl_none, pl_some, rf_some, rf_none, jun_ref, jun_null, ir_ref, ir_null, jr_rf, jun_rf, Option.toList_some, Option.toList_none, List.nil_append, List.cons_append, hc.1, r1, b77_4]
  exact s1
theorem d_has (hc : CV μ a) (x : Int32) : jC d 78 [.ref a, .int x] μ = some (some (.int (pN (¬ x < N 0 ∧ x < N (cL μ a).length))), μ) := by
  rw [jC_run (by decide)]
  show jR d 78 0 [.ref a, .int x] [] μ = _
  rw [len_cL]
  simp only [b78_0, b78_16, b78_17, gI4, gR4, pI4, pR4, rv4, aI_eq, aB_eq, aR_eq, sI_eq, sB_eq, sR_eq, Option.bind_some, Option.bind_none, if_true, if_false, true_or, or_true, false_or, or_false, true_and, and_true, false_and, and_false, decide_eq_true_eq, decide_true, decide_false, eq_self, not_true_eq_false, not_false_eq_true, jfit0, N_lit, N_add, N_mul, NEG_eq, pl_none, pl_some, rf_some, rf_none, jun_ref, jun_null, ir_ref, ir_null, jr_rf, jun_rf, Option.toList_some, Option.toList_none, List.nil_append, List.cons_append, hc.1, hc.2.2.1, show jrf 4 (N 0) = true from rfl, show jrf 4 (N 1) = true from rfl]
  by_cases h1 : x < N 0
  · rw [if_pos h1, pN_neg (fun h => h.1 h1)]
  · rw [if_neg h1]
    by_cases h2 : x < N (cN μ a)
    · rw [if_pos h2, pN_pos ⟨h1, h2⟩]
    · rw [if_neg h2, pN_neg (fun h => h2 h.2)]
/-- how many aren't settled -/
def unsN (l : List CL) : Nat := l.countP fun c => c.2.2.2 == N 0
theorem d_unsettled (hc : CV μ a) : jC d 79 [.ref a] μ = some (some (.int (N (unsN (cL μ a)))), μ) := by
  have h48 := hc.2.2.2
  have loop : ∀ k i, i + k = cN μ a → jR d 79 4 [.ref a, .int (N (unsN ((cL μ a).take i))), .int (N i)] [] μ = some (some (.int (N (unsN (cL μ a)))), μ) := by
    intro k
    induction k with
    | zero =>
      intro i hi
      have hi : i = cN μ a := hi
      rw [b79_4]
      simp only [gI4, gR4, pI4, pR4, rv4, aI_eq, aB_eq, aR_eq, sI_eq, sB_eq, sR_eq, Option.bind_some, Option.bind_none, if_true, if_false, true_or, or_true, false_or, or_false, true_and, and_true, false_and, and_false, decide_eq_true_eq, decide_true, decide_false, eq_self, not_true_eq_false, not_false_eq_true, jfit0, N_lit, N_add, N_mul, NEG_eq, pl_none, pl_some, rf_some, rf_none, jun_ref, jun_null, ir_ref, ir_null, jr_rf, jun_rf, Option.toList_some, Option.toList_none, List.nil_append, List.cons_append, hc.1, hc.2.2.1, hi, N_lt (show cN μ a < 2147483648 by omega) (show cN μ a < 2147483648 by omega), Nat.lt_irrefl]
      rw [List.take_of_length_le (by rw [len_cL]; omega)]
    | succ k ih =>
      intro i hi
      have bi : i < 2147483648 := by omega
      have hi2 : i < cN μ a := by omega
      have ih := ih (i + 1) (by omega)
      rw [List.take_succ, cL_get hi2] at ih
      rw [b79_4]
      simp only [gI4, gR4, pI4, pR4, rv4, aI_eq, aB_eq, aR_eq, sI_eq, sB_eq, sR_eq, Option.bind_some, Option.bind_none, if_true, if_false, true_or, or_true, false_or, or_false, true_and, and_true, false_and, and_false, decide_eq_true_eq, decide_true, decide_false, eq_self, not_true_eq_false, not_false_eq_true, jfit0, N_lit, N_add, N_mul, NEG_eq, pl_none, pl_some, rf_some, rf_none, jun_ref, jun_null, ir_ref, ir_null, jr_rf, jun_rf, Option.toList_some, Option.toList_none, List.nil_append, List.cons_append, hc.1, hc.2.1, hc.2.2.1, N_lt bi (show cN μ a < 2147483648 by omega), hi2, jinb_N bi, show i < 48 by omega, N_nat bi, b79_27]
      by_cases e : jiv μ (a + 4) i = N 0
      · rw [if_pos e, ← ih]
        congr 4
        unfold unsN
        rw [List.countP_append]
        simp [e]
      · rw [if_neg e, ← ih]
        congr 4
        unfold unsN
        rw [List.countP_append]
        simp [e]
  rw [jC_run (by decide)]
  show jR d 79 0 [.ref a, .retAddr 0, .retAddr 0] [] μ = _
  rw [b79_0]
  exact loop (cN μ a) 0 (by omega)
end CLASH
/-- the row of kinds that each kind is under -/
def JA (μ : jM) (B : Nat) : Prop := jX μ ∧ ∃ t : Nat, jext μ 7 = .ref t ∧ t < B ∧ jk μ t = 42 ∧ jl μ t = 6 ∧ jiv μ t 0 = NEG ∧ jiv μ t 1 = N 0 ∧ jiv μ t 2 = N 0 ∧ jiv μ t 3 = N 2 ∧ jiv μ t 4 = N 3 ∧ jiv μ t 5 = N 1
def RV (μ : jM) (r : Nat) : Prop :=
  (jk μ r = 8 ∧ jk μ (r + 1) = 20 ∧ jl μ (r + 1) = 3 ∧ jk μ (r + 2) = 20 ∧ jl μ (r + 2) = 3) ∧ (jrv μ r 0 = some (r + 1) ∧ jrv μ r 1 = some (r + 2)) ∧
  ∀ c, c < 3 → ∃ k f, k < 6 ∧ f < 100 ∧ jiv μ (r + 1) c = N k ∧ jiv μ (r + 2) c = N f
/-- the rules: kind and figure of each column -/
def rL (μ : jM) (r c : Nat) : Nat × Nat := ((jiv μ (r + 1) c).toNatClampNeg, (jiv μ (r + 2) c).toNatClampNeg)
def isOfN (k y : Nat) : Prop := y = 0 ∨ k = y ∨ (k = 3 ∧ y = 2) ∨ (k = 4 ∧ (y = 3 ∨ y = 2)) ∨ (k = 5 ∧ y = 1)
section RULES
variable {μ μ' : jM} {r B d : Nat}
theorem RV.at (h : RV μ r) {c : Nat} (hc : c < 3) : jiv μ (r + 1) c = N (rL μ r c).1 ∧ jiv μ (r + 2) c = N (rL μ r c).2 ∧ (rL μ r c).1 < 6 ∧ (rL μ r c).2 < 100 := by
  obtain ⟨k, f, h1, h2, h3, h4⟩ := h.2.2 c hc
  unfold rL
  rw [h3, h4, N_nat (by omega), N_nat (by omega)]
  exact ⟨rfl, rfl, h1, h2⟩
theorem RV.out {S : Nat → Prop} {T : Nat → Nat → Prop} (h : RV μ r) (F : Fx S T μ μ') (hS : ∀ x, S x → x < r ∨ r + 3 ≤ x) (hT : ∀ x j, T x j → x < r ∨ r + 3 ≤ x) : RV μ' r ∧ rL μ' r = rL μ r := by
  have e1 : jiv μ' (r + 1) = jiv μ (r + 1) := F.iv (fun k => by have := hS _ k; omega)
  have e2 : jiv μ' (r + 2) = jiv μ (r + 2) := F.iv (fun k => by have := hS _ k; omega)
  have hr : ∀ j, jrv μ' r j = jrv μ r j := fun j => F.rv (fun k => by have := hT _ _ k; omega)
  refine ⟨⟨by rw [F.kk, F.ll]; exact h.1, by rw [hr, hr]; exact h.2.1, by rw [e1, e2]; exact h.2.2⟩, ?_⟩
  funext c; unfold rL; rw [e1, e2]
theorem JA.out {S : Nat → Prop} {T : Nat → Nat → Prop} (h : JA μ B) (F : Fx S T μ μ') (hS : ∀ x, S x → B ≤ x) : JA μ' B := by
  obtain ⟨hx, t, h1, h2, h3⟩ := h
  have e1 : jiv μ' t = jiv μ t := F.iv (fun k => by have := hS _ k; omega)
  exact ⟨by unfold jX; rw [F.ext]; exact hx, t, by rw [F.ext]; exact h1, h2, by rw [F.kk, F.ll, e1]; exact h3⟩
theorem ruleKind_neg : jC d 33 [.int NEG] μ = some (some (.int (N 0)), μ) := by
  rw [jC_run (by decide)]
  show jR d 33 0 [.int NEG] [] μ = _
  simp only [b33_0, b33_14, b33_15, aI_eq, aB_eq, aR_eq, sI_eq, sB_eq, sR_eq, Option.bind_some, Option.bind_none, if_true, if_false, true_or, or_true, false_or, or_false, true_and, and_true, false_and, and_false, decide_eq_true_eq, decide_true, decide_false, eq_self, not_true_eq_false, not_false_eq_true, jfit0, N_lit, N_add, N_mul, NEG_eq, pl_none, pl_some, rf_some, rf_none, jun_ref, jun_null, ir_ref, ir_null, jr_rf, jun_rf, Option.toList_some, Option.toList_none, List.nil_append, List.cons_append, show NEG < N 0 by decide, show jrf 4 (N 0) = true from rfl]
theorem ruleKind_N {k : Nat} (hk : k < 6) : jC d 33 [.int (N k)] μ = some (some (.int (N 1)), μ) := by
  rw [jC_run (by decide)]
  show jR d 33 0 [.int (N k)] [] μ = _
  have bk : k < 2147483648 := by omega
  simp only [b33_0, b33_14, b33_15, aI_eq, aB_eq, aR_eq, sI_eq, sB_eq, sR_eq, Option.bind_some, Option.bind_none, if_true, if_false, true_or, or_true, false_or, or_false, true_and, and_true, false_and, and_false, decide_eq_true_eq, decide_true, decide_false, eq_self, not_true_eq_false, not_false_eq_true, jfit0, N_lit, N_add, N_mul, NEG_eq, pl_none, pl_some, rf_some, rf_none, jun_ref, jun_null, ir_ref, ir_null, jr_rf, jun_rf, Option.toList_some, Option.toList_none, List.nil_append, List.cons_append, N_lt bk (show 0 < 2147483648 by decide), N_lt bk (show 6 < 2147483648 by decide), Nat.not_lt_zero, hk, show jrf 4 (N 1) = true from rfl]
theorem d_isOf {c y : Nat} (hA : JA μ B) (h : RV μ r) (hc : c < 3) (hy : y < 6) : jC (d + 1) 122 [.ref r, .int (N c), .int (N y)] μ = some (some (.int (pN (isOfN (rL μ r c).1 y))), μ) := by
  obtain ⟨e1, -, e3, -⟩ := h.at hc
  generalize (rL μ r c).1 = k at *
  obtain ⟨hx, t, a1, a2, a3, a4, a5, a6, a7, a8, a9, a10⟩ := hA
  have b6 : (6 : Nat) < 2147483648 := by decide
  have by' : y < 2147483648 := by omega
  have bc : c < 2147483648 := by omega
  have end' : ∀ (u0 u1 : Value) (i : Nat), i < 100 → jR (d + 1) 122 10 [u0, u1, .int (N y), .int NEG, .int (N i)] [] μ = some (some (.int (N 0)), μ) := by
    intro u0 u1 i hi
    have bi : i < 2147483648 := by omega
    rw [b122_10]
    simp only [aI_eq, aB_eq, aR_eq, sI_eq, sB_eq, sR_eq, Option.bind_some, Option.bind_none, if_true, if_false, true_or, or_true, false_or, or_false, true_and, and_true, false_and, and_false, decide_eq_true_eq, decide_true, decide_false, eq_self, not_true_eq_false, not_false_eq_true, jfit0, N_lit, N_add, N_mul, NEG_eq, pl_none, pl_some, rf_some, rf_none, jun_ref, jun_null, ir_ref, ir_null, jr_rf, jun_rf, Option.toList_some, Option.toList_none, List.nil_append, List.cons_append, N_lt bi b6, ruleKind_neg, b122_21 _ _ _ _ _ _ _ _ hx, b122_43]
    split <;> rfl
  have step : ∀ (u0 u1 : Value) (k i : Nat), k < 6 → i < 6 → jR (d + 1) 122 10 [u0, u1, .int (N y), .int (N k), .int (N i)] [] μ = if k = y then some (some (.int (N 1)), μ) else jR (d + 1) 122 10 [u0, u1, .int (N y), .int (jiv μ t k), .int (N (i + 1))] [] μ := by
    intro u0 u1 k i hk hi
    have bi : i < 2147483648 := by omega
    have bk : k < 2147483648 := by omega
    rw [b122_10]
    simp only [aI_eq, aB_eq, aR_eq, sI_eq, sB_eq, sR_eq, Option.bind_some, Option.bind_none, if_true, if_false, true_or, or_true, false_or, or_false, true_and, and_true, false_and, and_false, decide_eq_true_eq, decide_true, decide_false, eq_self, not_true_eq_false, not_false_eq_true, jfit0, N_lit, N_add, N_mul, NEG_eq, pl_none, pl_some, rf_some, rf_none, jun_ref, jun_null, ir_ref, ir_null, jr_rf, jun_rf, Option.toList_some, Option.toList_none, List.nil_append, List.cons_append, N_lt bi b6, hi, ruleKind_N hk, b122_21 _ _ _ _ _ _ _ _ hx, n10, N_inj bk by', a1, a3, a4, jinb_N bk, hk, N_nat bk]
  have k0 : ∀ (u0 u1 : Value) (i : Nat), i < 6 → jR (d + 1) 122 10 [u0, u1, .int (N y), .int (N 0), .int (N i)] [] μ = some (some (.int (pN (isOfN 0 y))), μ) := by
    intro u0 u1 i hi
    rw [step u0 u1 0 i (by decide) hi, a5, end' _ _ _ (by omega)]
    by_cases e : 0 = y
    · rw [if_pos e, pN_pos (by unfold isOfN; omega)]
    · rw [if_neg e, pN_neg (by unfold isOfN; omega)]
  have k1 : ∀ (u0 u1 : Value) (i : Nat), i < 5 → jR (d + 1) 122 10 [u0, u1, .int (N y), .int (N 1), .int (N i)] [] μ = some (some (.int (pN (isOfN 1 y))), μ) := by
    intro u0 u1 i hi
    rw [step u0 u1 1 i (by decide) (by omega), a6, k0 _ _ _ (by omega)]
    by_cases e : 1 = y
    · rw [if_pos e, pN_pos (by unfold isOfN; omega)]
    · rw [if_neg e, pN_congr (show isOfN 0 y ↔ isOfN 1 y by unfold isOfN; omega)]
  have k2 : ∀ (u0 u1 : Value) (i : Nat), i < 5 → jR (d + 1) 122 10 [u0, u1, .int (N y), .int (N 2), .int (N i)] [] μ = some (some (.int (pN (isOfN 2 y))), μ) := by
    intro u0 u1 i hi
    rw [step u0 u1 2 i (by decide) (by omega), a7, k0 _ _ _ (by omega)]
    by_cases e : 2 = y
    · rw [if_pos e, pN_pos (by unfold isOfN; omega)]
    · rw [if_neg e, pN_congr (show isOfN 0 y ↔ isOfN 2 y by unfold isOfN; omega)]
  have k3 : ∀ (u0 u1 : Value) (i : Nat), i < 4 → jR (d + 1) 122 10 [u0, u1, .int (N y), .int (N 3), .int (N i)] [] μ = some (some (.int (pN (isOfN 3 y))), μ) := by
    intro u0 u1 i hi
    rw [step u0 u1 3 i (by decide) (by omega), a8, k2 _ _ _ (by omega)]
    by_cases e : 3 = y
    · rw [if_pos e, pN_pos (by unfold isOfN; omega)]
    · rw [if_neg e, pN_congr (show isOfN 2 y ↔ isOfN 3 y by unfold isOfN; omega)]
  have k4 : ∀ (u0 u1 : Value) (i : Nat), i < 3 → jR (d + 1) 122 10 [u0, u1, .int (N y), .int (N 4), .int (N i)] [] μ = some (some (.int (pN (isOfN 4 y))), μ) := by
    intro u0 u1 i hi
    rw [step u0 u1 4 i (by decide) (by omega), a9, k3 _ _ _ (by omega)]
    by_cases e : 4 = y
    · rw [if_pos e, pN_pos (by unfold isOfN; omega)]
    · rw [if_neg e, pN_congr (show isOfN 3 y ↔ isOfN 4 y by unfold isOfN; omega)]
  have k5 : ∀ (u0 u1 : Value) (i : Nat), i < 4 → jR (d + 1) 122 10 [u0, u1, .int (N y), .int (N 5), .int (N i)] [] μ = some (some (.int (pN (isOfN 5 y))), μ) := by
    intro u0 u1 i hi
    rw [step u0 u1 5 i (by decide) (by omega), a10, k1 _ _ _ (by omega)]
    by_cases e : 5 = y
    · rw [if_pos e, pN_pos (by unfold isOfN; omega)]
    · rw [if_neg e, pN_congr (show isOfN 1 y ↔ isOfN 5 y by unfold isOfN; omega)]
  rw [jC_run (by decide)]
  show jR (d + 1) 122 0 [.ref r, .int (N c), .int (N y), .retAddr 0, .retAddr 0] [] μ = _
  rw [b122_0]
  simp only [gI8, gR8, pI8, pR8, rv8, aI_eq, aB_eq, aR_eq, sI_eq, sB_eq, sR_eq, Option.bind_some, Option.bind_none, if_true, if_false, true_or, or_true, false_or, or_false, true_and, and_true, false_and, and_false, decide_eq_true_eq, decide_true, decide_false, eq_self, not_true_eq_false, not_false_eq_true, jfit0, N_lit, N_add, N_mul, NEG_eq, pl_none, pl_some, rf_some, rf_none, jun_ref, jun_null, ir_ref, ir_null, jr_rf, jun_rf, Option.toList_some, Option.toList_none, List.nil_append, List.cons_append, h.1, h.2.1, jinb_N bc, hc, N_nat bc, e1]
  obtain rfl | rfl | rfl | rfl | rfl | rfl : k = 0 ∨ k = 1 ∨ k = 2 ∨ k = 3 ∨ k = 4 ∨ k = 5 := by omega
  · exact k0 _ _ 0 (by decide)
  · exact k1 _ _ 0 (by decide)
  · exact k2 _ _ 0 (by decide)
  · exact k3 _ _ 0 (by decide)
  · exact k4 _ _ 0 (by decide)
  · exact k5 _ _ 0 (by decide)
theorem d_rbecome {r' : Nat} (h : RV μ r) (h' : RV μ r') (hd : r + 3 ≤ r' ∨ r' + 3 ≤ r) : ∃ μ', jC (d + 1) 123 [.ref r, .ref r'] μ = some (none, μ') ∧ Fx (fun x => r ≤ x ∧ x < r + 3) (fun _ _ => False) μ μ' ∧ RV μ' r ∧ ∀ c, c < 3 → rL μ' r c = rL μ r' c := by
  obtain ⟨m, hm⟩ : ∃ m, m = jrowI (jrowI μ (r + 1) (va_cpy (jiv μ (r' + 1)) (jiv μ (r + 1)) 0 0 3)) (r + 2) (va_cpy (jiv μ (r' + 2)) (jiv μ (r + 2)) 0 0 3) := ⟨_, rfl⟩
  have c3 : (0 : Int32) ≤ 3 := by decide
  have e1 : ∀ c, c < 3 → jiv m (r + 1) c = jiv μ (r' + 1) c := by
    intro c hc
    rw [hm]
    simp only [ty_setI, ty_setR, ty_rowI, ty_rowR, jk_setI, jk_setR, jk_rowI, jk_rowR, jl_setI, jl_setR, jl_rowI, jl_rowR, sz_setI, sz_setR, sz_rowI, sz_rowR, ext_setI, ext_setR, iv_setI, iv_setR, iv_rowI, iv_rowR, rv_setI, rv_setR, rv_rowI, rv_rowR, iv_setIn, iv_rowIn, rv_setRn, rv_rowRn, iv_rowIe, rv_rowRe, show ¬ r + 1 = r + 2 by omega, if_false, if_true]
    unfold va_cpy
    rw [if_pos (by omega)]; congr 1; omega
  have e2 : ∀ c, c < 3 → jiv m (r + 2) c = jiv μ (r' + 2) c := by
    intro c hc
    rw [hm]
    simp only [ty_setI, ty_setR, ty_rowI, ty_rowR, jk_setI, jk_setR, jk_rowI, jk_rowR, jl_setI, jl_setR, jl_rowI, jl_rowR, sz_setI, sz_setR, sz_rowI, sz_rowR, ext_setI, ext_setR, iv_setI, iv_setR, iv_rowI, iv_rowR, rv_setI, rv_setR, rv_rowI, rv_rowR, iv_setIn, iv_rowIn, rv_setRn, rv_rowRn, iv_rowIe, rv_rowRe, if_true]
    unfold va_cpy
    rw [if_pos (by omega)]; congr 1; omega
  refine ⟨m, ?_, ?_, ⟨by rw [hm]; exact h.1, by rw [hm]; exact h.2.1, fun c hc => ?_⟩, fun c hc => ?_⟩
  · rw [jC_run (by decide)]
    show jR (d + 1) 123 0 [.ref r, .ref r'] [] μ = _
    rw [b123_0 (h1 := ir_ref), hm]
    simp only [gI8, gR8, pI8, pR8, rv8, Option.bind_some, if_true, true_and, rf_some, ty_setI, ty_setR, ty_rowI, ty_rowR, jk_setI, jk_setR, jk_rowI, jk_rowR, jl_setI, jl_setR, jl_rowI, jl_rowR, sz_setI, sz_setR, sz_rowI, sz_rowR, ext_setI, ext_setR, iv_setI, iv_setR, iv_rowI, iv_rowR, rv_setI, rv_setR, rv_rowI, rv_rowR, iv_setIn, iv_rowIn, rv_setRn, rv_rowRn, iv_rowIe, rv_rowRe, cp_eq, h.1, h.2.1, h'.1, h'.2.1, c3, Int32.le_refl, true_or, if_false, and_true, not_false_eq_true, ne_eq, show (0 : Int32).toNatClampNeg = 0 from rfl, show (3 : Int32).toNatClampNeg = 3 from rfl, Nat.zero_add, Nat.le_refl, show ¬ r' + 2 = r + 1 by omega, show ¬ r + 2 = r + 1 by omega]
  · rw [hm]
    exact (Fx.refl.rowI (by show r ≤ r + 1 ∧ r + 1 < r + 3; omega)).rowI (by show r ≤ r + 2 ∧ r + 2 < r + 3; omega)
  · rw [e1 c hc, e2 c hc]; exact h'.2.2 c hc
  · unfold rL; rw [e1 c hc, e2 c hc]
end RULES
