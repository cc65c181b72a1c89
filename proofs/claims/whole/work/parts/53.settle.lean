/-! Board.mergedAsIn -/
/-- MERGED with one clash's place as in another grid -/
def pSet (M S : DG) (kd key col : Int32) : DG :=
  if kd = N 1 then lset M (lfind key M) col.toNatClampNeg (fun w => ((cO [] S (lfind key S) col.toNatClampNeg).1, (cO [] S (lfind key S) col.toNatClampNeg).2.1, (cO [] S (lfind key S) col.toNatClampNeg).2.2.1, w.2.2.2))
  else if kd = N 3 then lset M (lfind key M) col.toNatClampNeg (fun w => (w.1, w.2.1, w.2.2.1, (cO [] S (lfind key S) col.toNatClampNeg).2.2.2))
  else match lfind key M with
    | none => M
    | some p => match lfind key S with
      | none => M.eraseIdx p
      | some q => lrow M p (cO [] S (some q) 0) (cO [] S (some q) 1) (cO [] S (some q) 2)
theorem d_mergedAsIn {μ : jM} {D b d i p : Nat} {s : PB} {kd key col : Int32} (h : BR μ D b s) (hi : i < 3) (hto : lfind key (s.1 3) = some p) (hc : kd = N 1 ∨ kd = N 3 → ∃ c, c < 3 ∧ col = N c) : ∃ μ', jC (d + 4) 71 [.ref b, .ref (b + 1 + 6 * i), .int kd, .int key, .int col] μ = some (none, μ') ∧ FG (b + 19) μ μ' ∧ BR μ' D b (updf s.1 3 (pSet (s.1 3) (s.1 i) kd key col), s.2) := by
  obtain ⟨g3, e3⟩ := h.2.2.1 3 (by decide)
  obtain ⟨gi, ei⟩ := h.2.2.1 i (by omega)
  have g3 : GV μ D (b + 19) := g3
  have e3 : dG μ (xA (b + 19)) = s.1 3 := e3
  have hdis : b + 19 + 6 ≤ b + 1 + 6 * i ∨ b + 1 + 6 * i + 6 ≤ b + 19 := by omega
  have r3 : jrv μ b 3 = some (b + 19) := h.2.1.2.1.2.2.2.1
  have kb : jk μ b = 3 := h.2.1.1.1
  have t1 := fun d' => d_placeOf (d := d') g3 key
  have t2 := fun d' => d_placeOf (d := d') gi key
  rw [e3, hto] at t1
  rw [ei] at t2
  have p8 : p < 8 := by rw [← e3] at hto; exact lfind_small g3 hto
  have lS : ∀ j, lfind key (s.1 i) = some j → j < 1000 := fun j hj => by rw [← ei] at hj; have := lfind_small gi hj; omega
  have hl : p < (dG μ (xA (b + 19))).length := by rw [← e3] at hto; exact lfind_lt hto
  have fin : ∀ μ' v, FG (b + 19) μ μ' → GV μ' D (b + 19) → dG μ' (xA (b + 19)) = v → BR μ' D b (updf s.1 3 v, s.2) := fun μ' v F hv e => h.setG (i := 3) (by decide) F hv e
  rw [jC_run (by decide)]
  show ∃ μ', jR (d + 4) 71 0 [.ref b, .ref (b + 1 + 6 * i), .int kd, .int key, .int col, .retAddr 0, .retAddr 0] [] μ = _ ∧ _
  simp only [b71_0, b71_8, gI3, gR3, pI3, pR3, rv3, aI_eq, aB_eq, aR_eq, sI_eq, sB_eq, sR_eq, Option.bind_some, Option.bind_none, if_true, if_false, true_or, or_true, false_or, or_false, true_and, and_true, false_and, and_false, decide_eq_true_eq, decide_true, decide_false, eq_self, not_true_eq_false, not_false_eq_true, jfit0, N_lit, N_add, N_mul, NEG_eq, pl_none, pl_some, rf_some, rf_none, jun_ref, jun_null, ir_ref, ir_null, jr_rf, jun_rf, Option.toList_some, Option.toList_none, List.nil_append, List.cons_append, kb, r3, rv6, g3.2.1.1, gi.2.1.1, t1, t2]
  unfold pSet
  rw [hto]
  by_cases c1 : kd = N 1
  · obtain ⟨c, hc3, rfl⟩ := hc (Or.inl c1)
    obtain ⟨μ', r1, r2, r4, r5⟩ := d_contentAsIn (d := d + 2) (p := some p) (q := lfind key (s.1 i)) g3 gi hdis (one_small (by omega)) lS hc3
    rw [e3, ei] at r5
    refine ⟨μ', ?_, r2, ?_⟩
    · simp only [pl_some] at r1
      simp only [b71_15, b71_36, b71_96, c1, gI3, gR3, pI3, pR3, rv3, aI_eq, aB_eq, aR_eq, sI_eq, sB_eq, sR_eq, Option.bind_some, Option.bind_none, if_true, if_false, true_or, or_true, false_or, or_false, true_and, and_true, false_and, and_false, decide_eq_true_eq, decide_true, decide_false, eq_self, not_true_eq_false, not_false_eq_true, jfit0, N_lit, N_add, N_mul, NEG_eq, pl_none, pl_some, rf_some, rf_none, jun_ref, jun_null, ir_ref, ir_null, jr_rf, jun_rf, Option.toList_some, Option.toList_none, List.nil_append, List.cons_append, kb, r3, rv6, g3.2.1.1, r1]
    · rw [if_pos c1]
      refine fin μ' _ r2 r4 ?_
      rw [r5, N_nat (by omega)]
  · by_cases c2 : kd = N 3
    · obtain ⟨c, hc3, rfl⟩ := hc (Or.inr c2)
      have t3 := d_noteAt (d := d + 2) (p := lfind key (s.1 i)) gi lS hc3
      rw [ei] at t3
      obtain ⟨μ', r1, r2, r4, r5⟩ := d_setNote (d := d + 2) (t := (cO [] (s.1 i) (lfind key (s.1 i)) c).2.2.2) (p := some p) g3 (one_small (by omega)) hc3
      rw [e3] at r5
      simp only [pl_some] at r1
      refine ⟨μ', ?_, r2, ?_⟩
      · simp only [b71_15, b71_60, b71_63, b71_96, c2, show (N 3 = N 1) = False from N_ne (by decide) (by decide) (by decide), gI3, gR3, pI3, pR3, rv3, aI_eq, aB_eq, aR_eq, sI_eq, sB_eq, sR_eq, Option.bind_some, Option.bind_none, if_true, if_false, true_or, or_true, false_or, or_false, true_and, and_true, false_and, and_false, decide_eq_true_eq, decide_true, decide_false, eq_self, not_true_eq_false, not_false_eq_true, jfit0, N_lit, N_add, N_mul, NEG_eq, pl_none, pl_some, rf_some, rf_none, jun_ref, jun_null, ir_ref, ir_null, jr_rf, jun_rf, Option.toList_some, Option.toList_none, List.nil_append, List.cons_append, kb, r3, rv6, g3.2.1.1, gi.2.1.1, t3, r1]
      · rw [if_neg c1, if_pos c2]
        refine fin μ' _ r2 r4 ?_
        rw [r5, N_nat (by omega)]
    · rw [if_neg c1, if_neg c2]
      cases e : lfind key (s.1 i) with
      | none =>
        obtain ⟨μ', r1, r2, r4, r5⟩ := d_removeRow (d := d) g3 hl
        rw [e3] at r5
        refine ⟨μ', ?_, r2, fin μ' _ r2 r4 r5⟩
        simp only [b71_15, b71_81, b71_96, c1, c2, gI3, gR3, pI3, pR3, rv3, aI_eq, aB_eq, aR_eq, sI_eq, sB_eq, sR_eq, Option.bind_some, Option.bind_none, if_true, if_false, true_or, or_true, false_or, or_false, true_and, and_true, false_and, and_false, decide_eq_true_eq, decide_true, decide_false, eq_self, not_true_eq_false, not_false_eq_true, jfit0, N_lit, N_add, N_mul, NEG_eq, pl_none, pl_some, rf_some, rf_none, jun_ref, jun_null, ir_ref, ir_null, jr_rf, jun_rf, Option.toList_some, Option.toList_none, List.nil_append, List.cons_append, kb, r3, rv6, g3.2.1.1, r1]
      | some q =>
        have hq := lS q e
        obtain ⟨μ', r1, r2, r4, r5⟩ := d_rowAsIn (d := d + 1) (i := p) (q := some q) g3 gi hdis (by omega) (one_small hq)
        rw [e3, ei] at r5
        simp only [pl_some] at r1
        refine ⟨μ', ?_, r2, fin μ' _ r2 r4 r5⟩
        simp only [b71_15, b71_96, c1, c2, N_NEG (show q < 2147483648 by omega), gI3, gR3, pI3, pR3, rv3, aI_eq, aB_eq, aR_eq, sI_eq, sB_eq, sR_eq, Option.bind_some, Option.bind_none, if_true, if_false, true_or, or_true, false_or, or_false, true_and, and_true, false_and, and_false, decide_eq_true_eq, decide_true, decide_false, eq_self, not_true_eq_false, not_false_eq_true, jfit0, N_lit, N_add, N_mul, NEG_eq, pl_none, pl_some, rf_some, rf_none, jun_ref, jun_null, ir_ref, ir_null, jr_rf, jun_rf, Option.toList_some, Option.toList_none, List.nil_append, List.cons_append, kb, r3, rv6, g3.2.1.1, r1]
