/-! THE CLASS's CALLS: how often without a clash -/
section TOP
variable {μ μ' μ'' : jM} {n w m v lo hi a b r q s D d X i k p c : Nat} {σ σ' : SG} {x y z u g : Int32} {bs : List Nat} {gm gt : DG}
theorem pDraw_small {n k : Nat} (ed : pDraw σ z n = some k) : k < 2147483648 := by
  unfold pDraw at ed
  generalize dits n (z, σ.1.1 1, σ.1.1 2) = P at ed
  cases e5 : pMerge σ.1.2.1 (σ.1.1 0) P.2.1 P.2.2 with
  | none => rw [e5] at ed; cases ed
  | some W =>
    rw [e5] at ed
    simp only [Option.map_some, Option.some.injEq] at ed
    rw [← ed]
    unfold pMerge at e5
    cases e6 : thW (σ.1.1 0) P.2.1 P.2.2 (P.2.2.map fun w => w.1) (mineW (σ.1.1 0) P.2.1 P.2.2 P.2.1) 0 with
    | none => rw [e6] at e5; cases e5
    | some V =>
      rw [e6] at e5
      cases e5
      have : ∀ n, (pCls σ.1.2.1 (σ.1.1 0) P.2.1 P.2.2 V n).length ≤ 6 * n := by
        intro n
        induction n with
        | zero => exact Nat.le_refl _
        | succ n ihn =>
          unfold pCls
          split
          · omega
          · rw [List.length_append]
            have := len_pRowK (R := σ.1.2.1) (gb := σ.1.1 0) (gx := P.2.1) (gt := P.2.2) (k := N (n + 1))
            omega
      have h99 := this 99
      show (pCls σ.1.2.1 (σ.1.1 0) P.2.1 P.2.2 V 99).length < 2147483648
      omega
theorem ch_end {D : Nat → Option Nat} {m f pt : Nat} {u6 : Value} (hm8 : m < 8) (hpt : pt < 2) (hp : gfree D (m + 1) = some f) : jR (d + 7) 45 28 [.ref X, .int z, .int (N (m + 1)), .int (N pt), .int (N f), .int (N (m + 1)), u6] [] μ = some (some (.int (((gfree D (m + 1)).map fun f => N ((if N pt = N 0 then f else m + 1) / Nat.gcd f (m + 1))).getD aFULL)), μ) := by
  have hf := gfree_le _ _ hp
  have ept : (N pt = N 0) = (pt = 0) := N_inj (by omega) (by decide)
  rw [b45_28, if_neg (by rw [N_lt (by omega) (by omega)]; omega), x_lowest (by omega) (by omega) hf hpt, hp]
  simp only [aI_eq, aB_eq, aR_eq, sI_eq, sB_eq, sR_eq, Option.bind_some, Option.bind_none, if_true, if_false, true_or, or_true, false_or, or_false, true_and, and_true, false_and, and_false, decide_eq_true_eq, decide_true, decide_false, eq_self, not_true_eq_false, not_false_eq_true, jfit0, N_lit, N_add, N_mul, NEG_eq, pl_none, pl_some, rf_some, rf_none, jun_ref, jun_null, ir_ref, ir_null, jr_rf, jun_rf, Option.toList_some, Option.toList_none, List.nil_append, List.cons_append, b45_83, Option.map_some, Option.getD_some, ept]
theorem ch_go {D : Nat → Option Nat} {m f pt i : Nat} {u6 : Value} (hk : jk μ X = 12) (him : i < m + 1) (hm8 : m < 8) (c2 : jC (d + 6) 42 [.ref X, .int (z + N i), .int (N 3)] μ = some (some (.int (((D i).map N).getD aFULL)), μ')) : jR (d + 7) 45 28 [.ref X, .int z, .int (N (m + 1)), .int (N pt), .int (N f), .int (N i), u6] [] μ = jR (d + 7) 45 43 [.ref X, .int z, .int (N (m + 1)), .int (N pt), .int (N f), .int (N i), u6] [.int (((D i).map N).getD aFULL)] μ' := by
  rw [b45_28, if_pos (by rw [N_lt (by omega) (by omega)]; omega)]
  simp only [N_lit, gI12, gR12, pI12, pR12, rv12, aI_eq, aB_eq, aR_eq, sI_eq, sB_eq, sR_eq, Option.bind_some, Option.bind_none, if_true, if_false, true_or, or_true, false_or, or_false, true_and, and_true, false_and, and_false, decide_eq_true_eq, decide_true, decide_false, eq_self, not_true_eq_false, not_false_eq_true, jfit0, N_lit, N_add, N_mul, NEG_eq, pl_none, pl_some, rf_some, rf_none, jun_ref, jun_null, ir_ref, ir_null, jr_rf, jun_rf, Option.toList_some, Option.toList_none, List.nil_append, List.cons_append, hk, c2]
theorem ch_none {m f pt i : Nat} {u6 : Value} : jR (d + 7) 45 43 [.ref X, .int z, .int (N (m + 1)), .int (N pt), .int (N f), .int (N i), u6] [.int aFULL] μ = some (some (.int aFULL), μ) := by
  rw [b45_43]
  simp only [N_lit, if_true]
theorem ch_k {m f pt i k : Nat} {u6 : Value} (hk48 : k < 2147483648) : jR (d + 7) 45 43 [.ref X, .int z, .int (N (m + 1)), .int (N pt), .int (N f), .int (N i), u6] [.int (N k)] μ = jR (d + 7) 45 28 [.ref X, .int z, .int (N (m + 1)), .int (N pt), .int (N (if k = 0 then f + 1 else f)), .int (N (i + 1)), .int (N k)] [] μ := by
  have nf : ¬ N k = -4 := by
    intro g
    have := congrArg Int32.toInt g
    rw [N_toInt hk48] at this
    have e4 : (-4 : Int32).toInt = -4 := by decide
    omega
  have ek : (N k = N 0) = (k = 0) := N_inj hk48 (by decide)
  rw [b45_43, if_neg nf]
  by_cases e0 : k = 0
  · have e00 : N k = 0 := by rw [e0]; rfl
    rw [if_pos e00, if_pos e0, b45_67]
    simp only [N_lit, N_add]
  · have e00 : ¬ N k = 0 := fun g => e0 (ek.mp g)
    rw [if_neg e00, if_neg e0, b45_67]
    simp only [N_lit, N_add, Nat.add_zero]
theorem ch_loop {D : Nat → Option Nat} {m pt : Nat} (hm8 : m < 8) (hpt : pt < 2) (hrun : ∀ (i : Nat) (μ1 : jM), XT μ X μ1 σ 0 0 → ∃ μ2, jC (d + 6) 42 [.ref X, .int (z + N i), .int (N 3)] μ1 = some (some (.int (((D i).map N).getD aFULL)), μ2) ∧ XT μ X μ2 σ 0 0) (hsm : ∀ i k, D i = some k → k < 2147483648) : ∀ (j i f : Nat) (μ1 : jM) (u6 : Value), i + j = m + 1 → gfree D i = some f → XT μ X μ1 σ 0 0 → ∃ μ', jR (d + 7) 45 28 [.ref X, .int z, .int (N (m + 1)), .int (N pt), .int (N f), .int (N i), u6] [] μ1 = some (some (.int (((gfree D (m + 1)).map fun f => N ((if N pt = N 0 then f else m + 1) / Nat.gcd f (m + 1))).getD aFULL)), μ') ∧ XT μ X μ' σ 0 0 := by
  intro j
  induction j with
  | zero =>
    intro i f μ1 u6 hi hp T1
    rw [Nat.add_zero] at hi
    subst hi
    exact ⟨μ1, ch_end hm8 hpt hp, T1⟩
  | succ j ih =>
    intro i f μ1 u6 hi hp T1
    obtain ⟨μ2, c2, T2⟩ := hrun i μ1 T1
    have hgo := ch_go (pt := pt) (f := f) (u6 := u6) T1.2.2.s0.1 (show i < m + 1 by omega) hm8 c2
    have hstep : gfree D (i + 1) = (D i).map fun k => if k = 0 then f + 1 else f := by
      rw [gfree_succ, hp]; rfl
    cases ed : D i with
    | none =>
      rw [ed] at hstep hgo
      have hnone := gfree_none j (show gfree D (i + 1) = none from hstep)
      rw [show i + 1 + j = m + 1 by omega] at hnone
      rw [hnone]
      exact ⟨μ2, hgo.trans ch_none, T2⟩
    | some k =>
      rw [ed] at hstep hgo
      obtain ⟨μ', v1, v2⟩ := ih (i + 1) (if k = 0 then f + 1 else f) μ2 (.int (N k)) (by omega) hstep T2
      exact ⟨μ', hgo.trans ((ch_k (hsm i k ed)).trans v1), v2⟩
theorem t_chance (hb : BI μ X) (h : XR μ X σ) : OP (d + 7) 45 [.ref X, .int z, .int x, .int y] μ X (o_chance σ z x y) 0 0 := by
  have k12 := h.s0.1
  unfold OP
  rw [jC_run (by decide)]
  show ∃ μ', jR (d + 7) 45 0 [.ref X, .int z, .int x, .int y, .retAddr 0, .retAddr 0, .retAddr 0] [] μ = _ ∧ _
  rw [b45_0]
  simp only [x_isIn, aI_eq, aB_eq, aR_eq, sI_eq, sB_eq, sR_eq, Option.bind_some, Option.bind_none, if_true, if_false, true_or, or_true, false_or, or_false, true_and, and_true, false_and, and_false, decide_eq_true_eq, decide_true, decide_false, eq_self, not_true_eq_false, not_false_eq_true, jfit0, N_lit, N_add, N_mul, NEG_eq, pl_none, pl_some, rf_some, rf_none, jun_ref, jun_null, ir_ref, ir_null, jr_rf, jun_rf, Option.toList_some, Option.toList_none, List.nil_append, List.cons_append]
  rw [b45_7]
  unfold o_chance
  have hx : (¬ x < N 1 ∧ ¬ N 8 < x) ↔ ∃ m, ix 8 (x - N 1) = some m ∧ x = N (m + 1) ∧ m < 8 := by
    constructor
    · rintro ⟨g1, g2⟩
      have h0 : ¬ x < N 0 := fun g => g1 (by
        rw [Int32.lt_iff_toInt_lt] at g ⊢
        rw [N_toInt (by decide)] at g ⊢
        omega)
      obtain ⟨b, hb, rfl⟩ := N_of h0
      rw [N_lt hb (by decide)] at g1
      rw [N_lt (by decide) hb] at g2
      refine ⟨b - 1, ?_, by congr 1; omega, by omega⟩
      rw [N_sub (by omega)]
      exact ix_N (by decide) (by omega)
    · rintro ⟨m, h1, rfl, h3⟩
      rw [N_lt (by omega) (by decide), N_lt (by decide) (by omega)]
      omega
  cases e : ix 8 (x - N 1) with
  | none =>
    refine ⟨μ, ?_, XT.refl hb h⟩
    rw [pN_neg (fun g => by obtain ⟨m, hm, -⟩ := hx.mp g; rw [e] at hm; cases hm), if_pos (by rfl), b45_19]; rfl
  | some m =>
    have hxm : x = N (m + 1) ∧ m < 8 := by
      obtain ⟨e1, e2⟩ := ix_some (by decide) e
      refine ⟨?_, e2⟩
      have : x = (x - N 1) + N 1 := by rw [Int32.sub_add_cancel]
      rw [this, e1, N_add]
    obtain ⟨rfl, hm8⟩ := hxm
    rw [pN_pos (hx.mpr ⟨m, e, rfl, hm8⟩)]
    simp only [N_lit, n10, if_false, x_isIn, aI_eq, aB_eq, aR_eq, sI_eq, sB_eq, sR_eq, Option.bind_some, Option.bind_none, if_true, if_false, true_or, or_true, false_or, or_false, true_and, and_true, false_and, and_false, decide_eq_true_eq, decide_true, decide_false, eq_self, not_true_eq_false, not_false_eq_true, jfit0, N_lit, N_add, N_mul, NEG_eq, pl_none, pl_some, rf_some, rf_none, jun_ref, jun_null, ir_ref, ir_null, jr_rf, jun_rf, Option.toList_some, Option.toList_none, List.nil_append, List.cons_append]
    rw [b45_16]
    by_cases e3 : y < N 0 ∨ N 1 < y
    · refine ⟨μ, ?_, ?_⟩
      · rw [pN_neg (fun g => e3.elim g.1 g.2), if_pos (by rfl), b45_19]
        simp only [if_pos e3]; rfl
      · simp only [if_pos e3]; exact XT.refl hb h
    · rw [pN_pos ⟨fun g => e3 (Or.inl g), fun g => e3 (Or.inr g)⟩]
      simp only [if_neg e3, N_lit, n10, if_false]
      obtain ⟨pt, rfl, hpt⟩ : ∃ pt, y = N pt ∧ pt < 2 := by
        obtain ⟨b, hb, rfl⟩ := N_of (x := y) (fun g => e3 (Or.inl g))
        have h2 : ¬ N 1 < N b := fun g => e3 (Or.inr g)
        rw [N_lt (by decide) hb] at h2
        exact ⟨b, rfl, by omega⟩
      have ept : (N pt = N 0) = (pt = 0) := N_inj (by omega) (by decide)
      have hrun : ∀ (i : Nat) (μ1 : jM), XT μ X μ1 σ 0 0 → ∃ μ2, jC (d + 6) 42 [.ref X, .int (z + N i), .int (N 3)] μ1 = some (some (.int ((((fun i => pDraw σ (z + N i) 3) i).map N).getD aFULL)), μ2) ∧ XT μ X μ2 σ 0 0 := fun i μ1 T1 => by
        obtain ⟨μ2, c2, T2⟩ := t_drawn1 (d := d) (z := z + N i) (n := 3) T1.2.1 T1.2.2 (by decide)
        exact ⟨μ2, c2, T1.trans T2⟩
      have hsm : ∀ i k, (fun i => pDraw σ (z + N i) 3) i = some k → k < 2147483648 := fun i k e => pDraw_small e
      unfold pFree
      generalize (fun i => pDraw σ (z + N i) 3) = D at *
      exact ch_loop hm8 hpt hrun hsm (m + 1) 0 0 μ (.retAddr 0) (by omega) gfree_zero (XT.refl hb h)
end TOP
