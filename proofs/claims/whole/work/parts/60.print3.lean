/-! PRINTING: a cell -/
theorem dec_le (v : Int32) : (dec v).length ≤ 11 := by
  have h := (dlen_le v.toInt.natAbs).1
  rw [dec_len]
  split <;> omega
theorem d_printCell {μ μb : jM} {a t cap d n w c p g B D : Nat} {G : DG} (hx : KX μb B) (hjb : JW μb) (hg : PG μb D g G) (hz : KZ G) (hp : PS μb n w μ a t cap []) (hpl : p < 1000) (hc : c < 3) : ∃ μ' t' cap', jC (d + 9) 105 [.ref g, .int (N p), .int (N c), .ref a] μ = some (none, μ') ∧ PS μb (n + 121) (w + 9700) μ' a t' cap' (celp G (cO [] G (some p) c)) := by
  have hg1 := pg_at hg hjb hp
  have ka : jk μ a = 1 := hp.2.1.1.1
  have t1 := x_formulaAt (d := d + 7) (p := some p) hg1.1.2.1 hg1.1.2.2.1 (one_small hpl) hc
  have t2 := d_kindAt (d := d + 7) (p := some p) hg1.1 (one_small hpl) hc
  have t3 := d_numberAt (d := d + 7) (p := some p) hg1.1 (one_small hpl) hc
  have hcell := hg.1.cell (p := some p) (c := c)
  have hdc : cO [] G (some p) c = rcm (dF μb) (cO none (rG μb (xA g)) (some p) c) := by rw [← hg.2]; exact cO_dG
  -- the formula's cell is the same
  have hsame : (cO none (rG μ (xA g)) (some p) c).2.2.1 = (cO none (rG μb (xA g)) (some p) c).2.2.1 := by
    have hl := hg.1.2.1.lt hjb
    have e := rG_same (μ := μb) (μ' := μ) (A := xA g) (congrFun (hp.1.iv (hl 0 (by decide)) id) 0) (hp.1.iv (hl 1 (by decide)) id) (hp.1.iv (hl 2 (by decide)) id) (hp.1.iv (hl 3 (by decide)) id) (by funext j; exact hp.1.rv (hl 4 (by decide)) id) (hp.1.iv (hl 5 (by decide)) id)
    rw [e.1]
  rw [hsame] at t1
  rw [hg1.2] at t2 t3
  rw [jC_run (by decide)]
  show ∃ μ' t' cap', jR (d + 9) 105 0 [.ref g, .int (N p), .int (N c), .ref a, .retAddr 0] [] μ = _ ∧ _
  simp only [pl_some] at t1 t2 t3
  rw [b105_0 (h3 := ir_ref)]
  simp only [aI_eq, aB_eq, aR_eq, sI_eq, sB_eq, sR_eq, Option.bind_some, Option.bind_none, if_true, if_false, true_or, or_true, false_or, or_false, true_and, and_true, false_and, and_false, decide_eq_true_eq, decide_true, decide_false, eq_self, not_true_eq_false, not_false_eq_true, jfit0, N_lit, N_add, N_mul, NEG_eq, pl_none, pl_some, rf_some, rf_none, jun_ref, jun_null, ir_ref, ir_null, jr_rf, jun_rf, Option.toList_some, Option.toList_none, List.nil_append, List.cons_append, rv6, hg1.1.2.1.1, t1]
  generalize hX : cO none (rG μb (xA g)) (some p) c = X at *
  obtain ⟨X1, X2, X3, X4⟩ := X
  have plain : ∀ (s0 : Value), jisref s0 = true → jun s0 = none → X1 = N 0 ∨ X1 = N 1 → ∃ μ' t' cap', jR (d + 9) 105 6 [.ref g, .int (N p), .int (N c), .ref a, .retAddr 0] [s0] μ = some (none, μ') ∧ PS μb (n + 121) (w + 9700) μ' a t' cap' (celp G (cO [] G (some p) c)) := by
    intro s0 hs0 hu hk
    rw [b105_6 (h3 := ir_ref) (hs0 := hs0), if_pos hu]
    simp only [aI_eq, aB_eq, aR_eq, sI_eq, sB_eq, sR_eq, Option.bind_some, Option.bind_none, if_true, if_false, true_or, or_true, false_or, or_false, true_and, and_true, false_and, and_false, decide_eq_true_eq, decide_true, decide_false, eq_self, not_true_eq_false, not_false_eq_true, jfit0, N_lit, N_add, N_mul, NEG_eq, pl_none, pl_some, rf_some, rf_none, jun_ref, jun_null, ir_ref, ir_null, jr_rf, jun_rf, Option.toList_some, Option.toList_none, List.nil_append, List.cons_append, rv6, hg1.1.2.1.1, t2]
    rw [b105_29 (h3 := ir_ref)]
    have ek : (cO [] G (some p) c).1 = X1 := by rw [hdc]; rfl
    unfold celp
    rw [ek]
    rcases hk with hk | hk
    · subst hk
      refine ⟨μ, t, cap, ?_, ?_⟩
      · rw [N_lit, if_neg (by decide), b105_44]
      · rw [if_neg (by decide), if_neg (by decide)]
        exact hp.mono (by omega) (by omega)
    · subst hk
      have hl := dec_le (cO [] G (some p) c).2.1
      obtain ⟨μ', t', cap', r1, r2⟩ := ps_int (d := d + 3) (v := (cO [] G (some p) c).2.1) hx hjb hp (by simp only [List.length_nil]; omega)
      refine ⟨μ', t', cap', ?_, ?_⟩
      · rw [N_lit, if_pos rfl]
        simp only [aI_eq, aB_eq, aR_eq, sI_eq, sB_eq, sR_eq, Option.bind_some, Option.bind_none, if_true, if_false, true_or, or_true, false_or, or_false, true_and, and_true, false_and, and_false, decide_eq_true_eq, decide_true, decide_false, eq_self, not_true_eq_false, not_false_eq_true, jfit0, N_lit, N_add, N_mul, NEG_eq, pl_none, pl_some, rf_some, rf_none, jun_ref, jun_null, ir_ref, ir_null, jr_rf, jun_rf, Option.toList_some, Option.toList_none, List.nil_append, List.cons_append, rv6, hg1.1.2.1.1, t3]
        rw [b105_40 (hs0 := ir_ref)]
        simp only [gI1, gR1, pI1, pR1, rv1, aI_eq, aB_eq, aR_eq, sI_eq, sB_eq, sR_eq, Option.bind_some, Option.bind_none, if_true, if_false, true_or, or_true, false_or, or_false, true_and, and_true, false_and, and_false, decide_eq_true_eq, decide_true, decide_false, eq_self, not_true_eq_false, not_false_eq_true, jfit0, N_lit, N_add, N_mul, NEG_eq, pl_none, pl_some, rf_some, rf_none, jun_ref, jun_null, ir_ref, ir_null, jr_rf, jun_rf, Option.toList_some, Option.toList_none, List.nil_append, List.cons_append, ka, r1]
        rw [b105_43 (hs0 := ir_ref), b105_44]
      · rw [if_neg (by decide), if_pos rfl]
        exact r2.mono (by omega) (by omega)
  rcases hcell with ⟨h1, h2, h3⟩ | ⟨h1, h3⟩ | ⟨h1, h2, f, h3, h4, h5⟩
  · have h3 : X3 = none := h3
    have h1 : X1 = N 0 := h1
    rw [h3]
    exact plain _ ir_null rfl (Or.inl h1)
  · have h3 : X3 = none := h3
    have h1 : X1 = N 1 := h1
    rw [h3]
    exact plain _ ir_null rfl (Or.inr h1)
  · have h3 : X3 = some f := h3
    have h1 : X1 = N 2 := h1
    obtain ⟨e0, w1, w2, w3, w4, w5⟩ := h5
    obtain ⟨μ', t', cap', r1, r2⟩ := x_printTo (d := d) hx hjb hg h4 hz hp (fun x hx => tks_ok e0 2 w1 x (by rw [← w3]; exact hx)) w5
    have kf : jk μ f = 5 := (fs_at h4 hjb hp).1.1
    refine ⟨μ', t', cap', ?_, ?_⟩
    · rw [h3, rf_some, b105_6 (h3 := ir_ref) (hs0 := ir_ref)]
      simp only [jun_ref, reduceCtorEq, aI_eq, aB_eq, aR_eq, sI_eq, sB_eq, sR_eq, Option.bind_some, Option.bind_none, if_true, if_false, true_or, or_true, false_or, or_false, true_and, and_true, false_and, and_false, decide_eq_true_eq, decide_true, decide_false, eq_self, not_true_eq_false, not_false_eq_true, jfit0, N_lit, N_add, N_mul, NEG_eq, pl_none, pl_some, rf_some, rf_none, jun_ref, jun_null, ir_ref, ir_null, jr_rf, jun_rf, Option.toList_some, Option.toList_none, List.nil_append, List.cons_append, rv5, kf, r1]
      rw [b105_20, b105_44]
    · have e1 : celp G (cO [] G (some p) c) = 61 :: (ftk μb f).flatMap (tkp G) := by
        unfold celp
        rw [hdc]
        show (if X1 = N 2 then 61 :: (dF μb X3).flatMap (tkp G) else _) = _
        rw [if_pos h1, h3]
        show 61 :: ((ftk μb f).map tcan).flatMap (tkp G) = _
        rw [List.flatMap_map]
        congr 2
        funext x
        exact tkp_can hz
      rw [e1]; exact r2
