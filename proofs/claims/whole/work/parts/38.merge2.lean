/-! MERGING: the other's rows; one row's contents and notes -/
theorem nextB_le {W : DG} {k : Int32} {b : Nat} (h : b ≤ W.length) : nextB W k b ≤ W.length := by
  unfold nextB
  cases e : lfind k W with
  | none => exact h
  | some p => exact lfind_lt e
section MERGE
variable {μ μ' μ'' : jM} {B D m b x t r d : Nat} {gb gx gt : DG} {R : Nat → Nat × Nat} {k : Int32} {ob ox ot om : Option Nat}
def thR (o : Option DG) : Int32 := match o with
  | none => N 0
  | some _ => N 1
theorem d_placeTheirs (h : MX μ B D m b x t r gb gx gt R) : ∃ μ', jC (d + 4) 115 [.ref m] μ = some (some (.int (thR (thW gb gx gt (gt.map fun w => w.1) (dG μ (xA (m + 1))) 0))), μ') ∧ FM m μ μ' ∧ MX μ' B D m b x t r gb gx gt R ∧ cL μ' (m + 7) = cL μ (m + 7) ∧ ∀ W, thW gb gx gt (gt.map fun w => w.1) (dG μ (xA (m + 1))) 0 = some W → dG μ' (xA (m + 1)) = W := by
  have hlen : gt.length ≤ 8 := by
    have := h.2.1.2.2.2.2.1.2.2.1.2
    rw [← h.2.2.1.2.2.1, len_dG]; exact this
  have loop : ∀ n i μ1 c, i + n = gt.length → c ≤ (dG μ1 (xA (m + 1))).length → FM m μ μ1 → MX μ1 B D m b x t r gb gx gt R → cL μ1 (m + 7) = cL μ (m + 7) → ∃ μ', jR (d + 4) 115 4 [.ref m, .int (N c), .int (N i)] [] μ1 = some (some (.int (thR (thW gb gx gt ((gt.map fun w => w.1).drop i) (dG μ1 (xA (m + 1))) c))), μ') ∧ FM m μ μ' ∧ MX μ' B D m b x t r gb gx gt R ∧ cL μ' (m + 7) = cL μ (m + 7) ∧ ∀ W, thW gb gx gt ((gt.map fun w => w.1).drop i) (dG μ1 (xA (m + 1))) c = some W → dG μ' (xA (m + 1)) = W := by
    intro n
    induction n with
    | zero =>
      intro i μ1 c hi hc hF hM hC
      have hi : i = gt.length := hi
      have hv : vN μ1 (xA t) = gt.length := by rw [← hM.2.2.1.2.2.1, len_dG]
      have e : (gt.map fun w => w.1).drop i = [] := by
        rw [List.drop_eq_nil_iff, List.length_map]; omega
      rw [e]
      refine ⟨μ1, ?_, hF, hM, hC, fun W hW => ?_⟩
      · rw [b115_4]
        simp only [gI7, gR7, pI7, pR7, rv7, gI6, gR6, pI6, pR6, rv6, aI_eq, aB_eq, aR_eq, sI_eq, sB_eq, sR_eq, Option.bind_some, Option.bind_none, if_true, if_false, true_or, or_true, false_or, or_false, true_and, and_true, false_and, and_false, decide_eq_true_eq, decide_true, decide_false, eq_self, not_true_eq_false, not_false_eq_true, jfit0, N_lit, N_add, N_mul, NEG_eq, pl_none, pl_some, rf_some, rf_none, jun_ref, jun_null, ir_ref, ir_null, jr_rf, jun_rf, Option.toList_some, Option.toList_none, List.nil_append, List.cons_append, hM.1, hM.2.1.2.2.2.2.1.2.1.1, hM.2.1.2.2.2.2.1.2.2.1.1, hv, hi, N_lt (show gt.length < 2147483648 by omega) (show gt.length < 2147483648 by omega), Nat.lt_irrefl]
        rfl
      · unfold thW at hW; exact Option.some.inj hW
    | succ n ih =>
      intro i μ1 c hi hc hF hM hC
      have hi2 : i < gt.length := by omega
      have bi : i < 2147483648 := by omega
      have hm8 : vN μ1 (xA (m + 1)) ≤ 8 := hM.2.1.2.1.2.2.1.2
      have hvm : (dG μ1 (xA (m + 1))).length = vN μ1 (xA (m + 1)) := len_dG
      have hv : vN μ1 (xA t) = gt.length := by rw [← hM.2.2.1.2.2.1, len_dG]
      have t1 := d_keyAt (d := d + 3) hM.2.1.2.2.2.2.1 bi
      rw [hM.2.2.1.2.2.1] at t1
      obtain ⟨μ2, l1, l2, l3, l4, l5, l6⟩ := d_lookUp (d := d + 2) hM (keyO gt i)
      obtain ⟨j, hj⟩ := lfind_mem (l := gt) hi2
      have edrop : (gt.map fun w => w.1).drop i = keyO gt i :: (gt.map fun w => w.1).drop (i + 1) := by
        rw [List.drop_eq_getElem_cons (by rw [List.length_map]; exact hi2)]
        congr 1
        rw [List.getElem_map, keyO_lt hi2]
      rw [edrop]
      generalize hk : keyO gt i = k at *
      have sb := small_of (k := k) hM.2.1.2.2.1 rfl
      have sx := small_of (k := k) hM.2.1.2.2.2.1 rfl
      have st := small_of (k := k) hM.2.1.2.2.2.2.1 rfl
      rw [hM.2.2.1.1] at sb
      rw [hM.2.2.1.2.1] at sx
      rw [hM.2.2.1.2.2.1] at st
      -- behind: where the next one comes
      have next : ∀ (μ3 : jM) (W : DG), MX μ3 B D m b x t r gb gx gt R → FM m μ μ3 → cL μ3 (m + 7) = cL μ (m + 7) → dG μ3 (xA (m + 1)) = W → jiv μ3 m 6 = k → c ≤ W.length → ∃ μ', jR (d + 4) 115 91 [.ref m, .int (N c), .int (N i)] [] μ3 = some (some (.int (thR (thW gb gx gt ((gt.map fun w => w.1).drop (i + 1)) W (nextB W k c)))), μ') ∧ FM m μ μ' ∧ MX μ' B D m b x t r gb gx gt R ∧ cL μ' (m + 7) = cL μ (m + 7) ∧ ∀ W', thW gb gx gt ((gt.map fun w => w.1).drop (i + 1)) W (nextB W k c) = some W' → dG μ' (xA (m + 1)) = W' := by
        intro μ3 W q1 q2 q3 q4 q5 q6
        have p1 := d_placeOf (d := d + 3) q1.2.1.2.1 k
        have sm := small_of (k := k) q1.2.1.2.1 rfl
        rw [q4] at p1 sm
        obtain ⟨a1, a2, a3, a4⟩ := q1.stepM 10 (pl (lfind k W))
        obtain ⟨μ', s1, s2⟩ := ih (i + 1) (jsetI μ3 m 10 (pl (lfind k W))) (nextB W k c) (by omega) (by rw [a2, q4]; exact nextB_le q6) (q2.trans a4) a1 (by rw [a3, q3])
        rw [a2, q4] at s1 s2
        refine ⟨μ', ?_, s2⟩
        rw [b115_91]
        simp only [gI7, gR7, pI7, pR7, rv7, gI6, gR6, pI6, pR6, rv6, aI_eq, aB_eq, aR_eq, sI_eq, sB_eq, sR_eq, Option.bind_some, Option.bind_none, if_true, if_false, true_or, or_true, false_or, or_false, true_and, and_true, false_and, and_false, decide_eq_true_eq, decide_true, decide_false, eq_self, not_true_eq_false, not_false_eq_true, jfit0, N_lit, N_add, N_mul, NEG_eq, pl_none, pl_some, rf_some, rf_none, jun_ref, jun_null, ir_ref, ir_null, jr_rf, jun_rf, Option.toList_some, Option.toList_none, List.nil_append, List.cons_append, ty_setI, ty_setR, ty_rowI, ty_rowR, jk_setI, jk_setR, jk_rowI, jk_rowR, jl_setI, jl_setR, jl_rowI, jl_rowR, sz_setI, sz_setR, sz_rowI, sz_rowR, ext_setI, ext_setR, iv_setI, iv_setR, iv_rowI, iv_rowR, rv_setI, rv_setR, rv_rowI, rv_rowR, iv_setIn, iv_rowIn, rv_setRn, rv_rowRn, iv_rowIe, rv_rowRe, q1.1, q5, q1.2.1.2.1.2.1.1, p1, b115_103, and_self, pl_ne sm]
        cases e : lfind k W with
        | none =>
          have e2 : nextB W k c = c := by unfold nextB; rw [e]
          rw [e, e2] at s1
          simp only [if_true, b115_124, aI_eq, aB_eq, aR_eq, sI_eq, sB_eq, sR_eq, Option.bind_some, Option.bind_none, if_true, if_false, true_or, or_true, false_or, or_false, true_and, and_true, false_and, and_false, decide_eq_true_eq, decide_true, decide_false, eq_self, not_true_eq_false, not_false_eq_true, jfit0, N_lit, N_add, N_mul, NEG_eq, pl_none, pl_some, rf_some, rf_none, jun_ref, jun_null, ir_ref, ir_null, jr_rf, jun_rf, Option.toList_some, Option.toList_none, List.nil_append, List.cons_append]
          rw [e2]; exact s1
        | some p =>
          have e2 : nextB W k c = p + 1 := by unfold nextB; rw [e]
          rw [e, e2] at s1
          simp only [reduceCtorEq, if_false, b115_124, aI_eq, aB_eq, aR_eq, sI_eq, sB_eq, sR_eq, Option.bind_some, Option.bind_none, if_true, if_false, true_or, or_true, false_or, or_false, true_and, and_true, false_and, and_false, decide_eq_true_eq, decide_true, decide_false, eq_self, not_true_eq_false, not_false_eq_true, jfit0, N_lit, N_add, N_mul, NEG_eq, pl_none, pl_some, rf_some, rf_none, jun_ref, jun_null, ir_ref, ir_null, jr_rf, jun_rf, Option.toList_some, Option.toList_none, List.nil_append, List.cons_append]
          rw [e2]; exact s1
      have hW2 : dG μ2 (xA (m + 1)) = dG μ1 (xA (m + 1)) := l5
      have skip : ((lfind k gx).isNone && keepB gb gx gt k) = false → ∃ μ', jR (d + 4) 115 91 [.ref m, .int (N c), .int (N i)] [] μ2 = some (some (.int (thR (thW gb gx gt (k :: (gt.map fun w => w.1).drop (i + 1)) (dG μ1 (xA (m + 1))) c))), μ') ∧ FM m μ μ' ∧ MX μ' B D m b x t r gb gx gt R ∧ cL μ' (m + 7) = cL μ (m + 7) ∧ ∀ W', thW gb gx gt (k :: (gt.map fun w => w.1).drop (i + 1)) (dG μ1 (xA (m + 1))) c = some W' → dG μ' (xA (m + 1)) = W' := by
        intro hcond
        unfold thW
        rw [hcond]
        exact next μ2 _ l3 (hF.trans l2) (by rw [l6, hC]) hW2 l4.1 hc
      have lay : ((lfind k gx).isNone && keepB gb gx gt k) = true → ∃ μ', jR (d + 4) 115 65 [.ref m, .int (N c), .int (N i)] [] μ2 = some (some (.int (thR (thW gb gx gt (k :: (gt.map fun w => w.1).drop (i + 1)) (dG μ1 (xA (m + 1))) c))), μ') ∧ FM m μ μ' ∧ MX μ' B D m b x t r gb gx gt R ∧ cL μ' (m + 7) = cL μ (m + 7) ∧ ∀ W', thW gb gx gt (k :: (gt.map fun w => w.1).drop (i + 1)) (dG μ1 (xA (m + 1))) c = some W' → dG μ' (xA (m + 1)) = W' := by
        intro hcond
        have hv2 : vN μ2 (xA (m + 1)) = (dG μ1 (xA (m + 1))).length := by rw [← len_dG, l5]
        unfold thW
        rw [hcond]
        by_cases h8 : (dG μ1 (xA (m + 1))).length < 8
        · simp only [if_true, h8]
          obtain ⟨μ3, q1, q2, q3, q4⟩ := d_insertRow (d := d) (t := c) (k := k) l3.2.1.2.1 (by rw [l5]; exact h8) (by rw [l5]; exact hc)
          obtain ⟨g1, g2⟩ := l3.stepG q2 q3
          have e6 : jiv μ3 m 6 = k := by
            rw [q2.iv (show ¬ (m + 1 ≤ m ∧ m < m + 1 + 6) by omega)]; exact l4.1
          obtain ⟨μ', s1, s2⟩ := next μ3 _ g1 ((hF.trans l2).trans q2.fm) (by rw [g2, l6, hC]) (by rw [q4, l5]) e6 (by rw [List.length_insertIdx]; split <;> omega)
          refine ⟨μ', ?_, s2⟩
          rw [b115_65]
          simp only [gI7, gR7, pI7, pR7, rv7, gI6, gR6, pI6, pR6, rv6, aI_eq, aB_eq, aR_eq, sI_eq, sB_eq, sR_eq, Option.bind_some, Option.bind_none, if_true, if_false, true_or, or_true, false_or, or_false, true_and, and_true, false_and, and_false, decide_eq_true_eq, decide_true, decide_false, eq_self, not_true_eq_false, not_false_eq_true, jfit0, N_lit, N_add, N_mul, NEG_eq, pl_none, pl_some, rf_some, rf_none, jun_ref, jun_null, ir_ref, ir_null, jr_rf, jun_rf, Option.toList_some, Option.toList_none, List.nil_append, List.cons_append, l3.1, l3.2.1.2.1.2.1.1, l3.2.1.2.1.2.2.1.1, hv2, N_lt (show (dG μ1 (xA (m + 1))).length < 2147483648 by omega) (show 8 < 2147483648 by decide), h8, l4.1, q1]
          exact s1
        · simp only [if_true, h8, if_false]
          refine ⟨μ2, ?_, hF.trans l2, l3, by rw [l6, hC], fun W' e => by cases e⟩
          rw [b115_65]
          simp only [gI7, gR7, pI7, pR7, rv7, gI6, gR6, pI6, pR6, rv6, aI_eq, aB_eq, aR_eq, sI_eq, sB_eq, sR_eq, Option.bind_some, Option.bind_none, if_true, if_false, true_or, or_true, false_or, or_false, true_and, and_true, false_and, and_false, decide_eq_true_eq, decide_true, decide_false, eq_self, not_true_eq_false, not_false_eq_true, jfit0, N_lit, N_add, N_mul, NEG_eq, pl_none, pl_some, rf_some, rf_none, jun_ref, jun_null, ir_ref, ir_null, jr_rf, jun_rf, Option.toList_some, Option.toList_none, List.nil_append, List.cons_append, l3.1, l3.2.1.2.1.2.1.1, l3.2.1.2.1.2.2.1.1, hv2, N_lt (show (dG μ1 (xA (m + 1))).length < 2147483648 by omega) (show 8 < 2147483648 by decide), h8]
          rfl
      rw [b115_4]
      simp only [gI7, gR7, pI7, pR7, rv7, gI6, gR6, pI6, pR6, rv6, aI_eq, aB_eq, aR_eq, sI_eq, sB_eq, sR_eq, Option.bind_some, Option.bind_none, if_true, if_false, true_or, or_true, false_or, or_false, true_and, and_true, false_and, and_false, decide_eq_true_eq, decide_true, decide_false, eq_self, not_true_eq_false, not_false_eq_true, jfit0, N_lit, N_add, N_mul, NEG_eq, pl_none, pl_some, rf_some, rf_none, jun_ref, jun_null, ir_ref, ir_null, jr_rf, jun_rf, Option.toList_some, Option.toList_none, List.nil_append, List.cons_append, hM.1, hM.2.1.2.2.2.2.1.2.1.1, hM.2.1.2.2.2.2.1.2.2.1.1, hv, N_lt bi (show gt.length < 2147483648 by omega), hi2, t1, b115_24, l1]
      rw [b115_27]
      have t2 := d_isRowAlike (d := d) l3.2.1.2.2.1 l3.2.1.2.2.2.2.1 sb st
      rw [l3.2.2.1.1, l3.2.2.1.2.2.1] at t2
      simp only [gI7, gR7, pI7, pR7, rv7, gI6, gR6, pI6, pR6, rv6, aI_eq, aB_eq, aR_eq, sI_eq, sB_eq, sR_eq, Option.bind_some, Option.bind_none, if_true, if_false, true_or, or_true, false_or, or_false, true_and, and_true, false_and, and_false, decide_eq_true_eq, decide_true, decide_false, eq_self, not_true_eq_false, not_false_eq_true, jfit0, N_lit, N_add, N_mul, NEG_eq, pl_none, pl_some, rf_some, rf_none, jun_ref, jun_null, ir_ref, ir_null, jr_rf, jun_rf, Option.toList_some, Option.toList_none, List.nil_append, List.cons_append, l3.1, l4.1, l4.2.1, l4.2.2.1, l4.2.2.2.1, pl_ne sb, pl_ne sx, l3.2.1.2.2.1.2.1.1, t2, b115_62]
      have key : keepK gb gx gt k ↔ ((lfind k gx).isSome ∨ lfind k gb = none ∨ ¬ ∀ c, c < 3 → cO [] gb (lfind k gb) c = cO [] gt (lfind k gt) c) := by
        unfold keepK
        rw [hj]
        cases lfind k gx with
        | none => simp
        | some j' => simp
      by_cases e1 : lfind k gx = none
      · rw [if_pos e1]
        by_cases e2 : lfind k gb = none
        · rw [if_pos e2]
          exact lay (by rw [e1, Option.isNone_none, Bool.true_and]; exact keepB_iff.mpr (key.mpr (Or.inr (Or.inl e2))))
        · rw [if_neg e2]
          by_cases e3 : ∀ c, c < 3 → cO [] gb (lfind k gb) c = cO [] gt (lfind k gt) c
          · simp only [pN_pos e3, n10, if_false]
            refine skip (Bool.eq_false_iff.mpr (fun g => ?_))
            rw [e1, Option.isNone_none, Bool.true_and] at g
            rcases key.mp (keepB_iff.mp g) with g | g | g
            · rw [e1] at g; cases g
            · exact e2 g
            · exact g e3
          · simp only [pN_neg e3, if_true]
            exact lay (by rw [e1, Option.isNone_none, Bool.true_and]; exact keepB_iff.mpr (key.mpr (Or.inr (Or.inr e3))))
      · rw [if_neg e1]
        exact skip (by cases e : lfind k gx with | none => exact absurd e e1 | some j' => rfl)
  obtain ⟨μ', s1, s2⟩ := loop gt.length 0 μ 0 (by omega) (Nat.zero_le _) FM.refl h rfl
  refine ⟨μ', ?_, s2⟩
  rw [jC_run (by decide)]
  show jR (d + 4) 115 0 [.ref m, .retAddr 0, .retAddr 0] [] μ = _
  rw [b115_0]
  exact s1
end MERGE
