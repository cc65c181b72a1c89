/-! A TEXT being built: what is appended, what comes of it -/
section APP
variable {μ μ' μ'' : jM} {a t cap d m n w c i b tb : Nat} {s u : List Nat} {v : Int32}
theorem KD.fa {S : Nat → Prop} {T : Nat → Nat → Prop} (h : KD μ) (hj : JW μ) (F : Fa S T n w μ μ') (hS : ∀ b, jk μ b = 41 → ¬ S b) : KD μ' := by
  obtain ⟨hx, ⟨o, a1, a2, a3, a4⟩, ⟨o', b1, b2, b3, b4⟩⟩ := h
  have l1 := hj.lt (ne99 a2 (by decide))
  have l2 := hj.lt (ne99 b2 (by decide))
  refine ⟨hx.of F.1, ⟨o, ?_⟩, ⟨o', ?_⟩⟩
  · rw [F.1, F.kk l1, F.ll l1, F.iv l1 (hS o a2)]; exact ⟨a1, a2, a3, a4⟩
  · rw [F.1, F.kk l2, F.ll l2, F.iv l2 (hS o' b2)]; exact ⟨b1, b2, b3, b4⟩
theorem BV.fa {S : Nat → Prop} {T : Nat → Nat → Prop} (h : BV μ a t cap s) (hj : JW μ) (F : Fa S T n w μ μ') (ha : ¬ S a) (ht : ¬ S t) (hT : ¬ T a 0) : BV μ' a t cap s := by
  obtain ⟨l1, l2⟩ := h.lt hj
  unfold BV
  rw [F.kk l1, F.kk l2, F.ll l2, F.iv l1 ha, F.iv l2 ht, F.rv l1 hT]
  exact h
/-- room made, then something written -/
theorem sb_comp {t1 : Nat} {nn : Nat} (F : Fa (fun _ => False) (fun b _ => b = a) nn (80 * nn) μ μ') (ht : t1 = t ∨ t1 = jsz μ) (G : Fx (fun b => b = a ∨ b = t1) (fun _ _ => False) μ' μ'') : Fa (fun b => b = a ∨ b = t) (fun b _ => b = a) nn (80 * nn) μ μ'' := by
  have h1 : Fa (fun b => b = a ∨ b = t) (fun b _ => b = a) nn (80 * nn) μ μ' := F.mono (fun _ _ g => g.elim) (fun _ _ _ g => g) (Nat.le_refl _) (Nat.le_refl _)
  have h2 := h1.trans (G.fa F.jw) (fun b hb g => by
    have hb : b < jsz μ := hb
    rcases g with g | g
    · exact Or.inl g
    · rcases ht with e | e
      · exact Or.inr (g.trans e)
      · omega) (fun _ _ _ g => g.elim)
  exact h2.mono (fun _ _ g => g) (fun _ _ _ g => g) (by omega) (by omega)
theorem sb_char (hx : jX μ) (hj : JW μ) (h : BV μ a t cap s) (hc : c < 128) (hm : s.length + 1 ≤ 40) : ∃ μ' t' cap', jC (d + 5) 292 [.ref a, .int (N c)] μ = some (some (.ref a), μ') ∧ BV μ' a t' cap' (s ++ [c]) ∧ gr cap (s.length + 1) cap' ∧ Fa (fun b => b = a ∨ b = t) (fun b _ => b = a) (gn cap (s.length + 1)) (80 * gn cap (s.length + 1)) μ μ' ∧ (t' = t ∨ t' = jsz μ) := by
  obtain ⟨μ1, t1, cap1, r1, h1, r3, r4, F, r6⟩ := sb_ensure (d := d) hj h hm
  have hx1 := hx.of F.1
  have hne : ¬ t1 = a := fun e => h1.ne e.symm
  obtain ⟨⟨a1, a2, a3, a4⟩, ⟨b1, b2, b3, b4⟩, c1⟩ := h1
  have sB := sB_N (μ := jsetI μ1 a 3 (N (s.length + 1))) (t := t1) (i := s.length) (c := c) b1 (by rw [jl_setI, b2]; omega) (by rw [jl_setI, b2]; omega) hc
  have G : Fx (fun b => b = a ∨ b = t1) (fun _ _ => False) μ1 (jsetI (jsetI μ1 a 3 (N (s.length + 1))) t1 s.length (N c)) := by
    refine Fx.setI (Fx.setI Fx.refl ?_) ?_
    · show a = a ∨ a = t1; exact Or.inl rfl
    · show t1 = a ∨ t1 = t1; exact Or.inr rfl
  refine ⟨jsetI (jsetI μ1 a 3 (N (s.length + 1))) t1 s.length (N c), t1, cap1, ?_, ?_, r4, sb_comp F r6 G, r6⟩
  · have e299 : jC (d + 3) 299 [.int (N c)] μ1 = some (some (.int (N 1)), μ1) := by
      rw [jC_run (by decide)]
      show jR (d + 3) 299 0 [.int (N c)] [] μ1 = _
      simp only [b299_0, b299_12, aI_eq, aB_eq, aR_eq, sI_eq, sB_eq, sR_eq, Option.bind_some, Option.bind_none, if_true, if_false, true_or, or_true, false_or, or_false, true_and, and_true, false_and, and_false, decide_eq_true_eq, decide_true, decide_false, eq_self, not_true_eq_false, not_false_eq_true, jfit0, N_lit, N_add, N_mul, NEG_eq, pl_none, pl_some, rf_some, rf_none, jun_ref, jun_null, ir_ref, ir_null, jr_rf, jun_rf, Option.toList_some, Option.toList_none, List.nil_append, List.cons_append, N_lt (show 255 < 2147483648 by decide) (show c < 2147483648 by omega), show ¬ 255 < c by omega, show jrf 4 (N 1) = true from rfl]
    have e266 : jC (d + 4) 266 [.ref a, .int (N c)] μ = some (some (.ref a), jsetI (jsetI μ1 a 3 (N (s.length + 1))) t1 s.length (N c)) := by
      rw [jC_run (by decide)]
      show jR (d + 4) 266 0 [.ref a, .int (N c)] [] μ = _
      simp only [b266_0, b266_10, b266_14, b266_21, b266_75, gI1, gR1, pI1, pR1, rv1, Option.bind_some, Option.bind_none, if_true, if_false, true_or, or_true, false_or, or_false, true_and, and_true, false_and, and_false, decide_eq_true_eq, decide_true, decide_false, eq_self, not_true_eq_false, not_false_eq_true, jfit0, N_lit, N_add, N_mul, NEG_eq, pl_none, pl_some, rf_some, rf_none, jun_ref, jun_null, ir_ref, ir_null, jr_rf, jun_rf, Option.toList_some, Option.toList_none, List.nil_append, List.cons_append, h.1.1, h.1.2.2.1, r1, a1, sb_latin hx1 ⟨⟨a1, a2, a3, a4⟩, ⟨b1, b2, b3, b4⟩, c1⟩, n10, e299, a3, a4, ch_3 hc, sB]
    rw [jC_run (by decide)]
    show jR (d + 5) 292 0 [.ref a, .int (N c)] [] μ = _
    simp only [b292_0, b292_5, gI1, gR1, pI1, pR1, rv1, aI_eq, aB_eq, aR_eq, sI_eq, sB_eq, sR_eq, Option.bind_some, Option.bind_none, if_true, if_false, true_or, or_true, false_or, or_false, true_and, and_true, false_and, and_false, decide_eq_true_eq, decide_true, decide_false, eq_self, not_true_eq_false, not_false_eq_true, jfit0, N_lit, N_add, N_mul, NEG_eq, pl_none, pl_some, rf_some, rf_none, jun_ref, jun_null, ir_ref, ir_null, jr_rf, jun_rf, Option.toList_some, Option.toList_none, List.nil_append, List.cons_append, h.1.1, e266]
  · refine BV.app (u := [c]) ⟨⟨a1, a2, a3, a4⟩, ⟨b1, b2, b3, b4⟩, c1⟩ r3 rfl rfl ?_ ?_ rfl (fun j hj => ?_) (fun i c' hc' => ?_)
    · simp only [ty_setI, ty_setR, ty_rowI, ty_rowR, jk_setI, jk_setR, jk_rowI, jk_rowR, jl_setI, jl_setR, jl_rowI, jl_rowR, sz_setI, sz_setR, sz_rowI, sz_rowR, ext_setI, ext_setR, iv_setI, iv_setR, iv_rowI, iv_rowR, rv_setI, rv_setR, rv_rowI, rv_rowR, iv_setIn, iv_rowIn, rv_setRn, rv_rowRn, iv_rowIe, rv_rowRe, show ¬ a = t1 from fun e => hne e.symm, false_and, if_false, show ¬ (1 : Nat) = 3 by decide, and_false]; exact a2
    · simp only [ty_setI, ty_setR, ty_rowI, ty_rowR, jk_setI, jk_setR, jk_rowI, jk_rowR, jl_setI, jl_setR, jl_rowI, jl_rowR, sz_setI, sz_setR, sz_rowI, sz_rowR, ext_setI, ext_setR, iv_setI, iv_setR, iv_rowI, iv_rowR, rv_setI, rv_setR, rv_rowI, rv_rowR, iv_setIn, iv_rowIn, rv_setRn, rv_rowRn, iv_rowIe, rv_rowRe, show ¬ a = t1 from fun e => hne e.symm, false_and, if_false, and_self, if_true]; rfl
    · simp only [ty_setI, ty_setR, ty_rowI, ty_rowR, jk_setI, jk_setR, jk_rowI, jk_rowR, jl_setI, jl_setR, jl_rowI, jl_rowR, sz_setI, sz_setR, sz_rowI, sz_rowR, ext_setI, ext_setR, iv_setI, iv_setR, iv_rowI, iv_rowR, rv_setI, rv_setR, rv_rowI, rv_rowR, iv_setIn, iv_rowIn, rv_setRn, rv_rowRn, iv_rowIe, rv_rowRe, hne, false_and, if_false, show ¬ j = s.length by omega, and_false]
    · have hi : i = 0 := by
        have := (List.getElem?_eq_some_iff.mp hc').1
        simp only [List.length_cons, List.length_nil] at this; omega
      subst hi
      have hc' : some c = some c' := hc'
      cases hc'
      simp only [ty_setI, ty_setR, ty_rowI, ty_rowR, jk_setI, jk_setR, jk_rowI, jk_rowR, jl_setI, jl_setR, jl_rowI, jl_rowR, sz_setI, sz_setR, sz_rowI, sz_rowR, ext_setI, ext_setR, iv_setI, iv_setR, iv_rowI, iv_rowR, rv_setI, rv_setR, rv_rowI, rv_rowR, iv_setIn, iv_rowIn, rv_setRn, rv_rowRn, iv_rowIe, rv_rowRe, Nat.add_zero, and_self, if_true]
      exact ⟨trivial, hc⟩
theorem dec_ch {c : Nat} (h : c ∈ dec v) : c < 128 := by
  unfold dec at h
  split at h
  · rcases List.mem_cons.mp h with e | e
    · omega
    · have := dgs_ch _ _ e; omega
  · have := dgs_ch _ _ h; omega
theorem sb_int (hd : KD μ) (hj : JW μ) (h : BV μ a t cap s) (hm : s.length + (dec v).length ≤ 40) : ∃ μ' t' cap', jC (d + 5) 293 [.ref a, .int v] μ = some (some (.ref a), μ') ∧ BV μ' a t' cap' (s ++ dec v) ∧ gr cap (s.length + (dec v).length) cap' ∧ Fa (fun b => b = a ∨ b = t) (fun b _ => b = a) (gn cap (s.length + (dec v).length)) (80 * gn cap (s.length + (dec v).length)) μ μ' ∧ (t' = t ∨ t' = jsz μ) := by
  obtain ⟨μ1, t1, cap1, r1, h1, r3, r4, F, r6⟩ := sb_ensure (d := d) hj h hm
  have hd1 := hd.fa hj F (fun _ _ => id)
  have hx1 := hd1.1
  have hne : ¬ t1 = a := fun e => h1.ne e.symm
  have hbv := h1
  obtain ⟨⟨a1, a2, a3, a4⟩, ⟨b1, b2, b3, b4⟩, c1⟩ := h1
  obtain ⟨μ2, r, g1, g2, g3, g4⟩ := x_getChars (d := d + 3) (e := s.length + (dec v).length) (v := v) hd1 b1 (by rw [b2]; omega) (by rw [b2]; exact r3) (Nat.le_add_left _ _)
  have hk2 : jk μ2 a = 1 := by rw [g2.kk]; exact a1
  have G : Fx (fun b => b = a ∨ b = t1) (fun _ _ => False) μ1 (jsetI μ2 a 3 (N (s.length + (dec v).length))) := by
    refine Fx.setI (Fx.mono g2 (fun b hb => Or.inr hb) (fun _ _ g => g)) ?_
    show a = a ∨ a = t1; exact Or.inl rfl
  refine ⟨jsetI μ2 a 3 (N (s.length + (dec v).length)), t1, cap1, ?_, ?_, r4, sb_comp F r6 G, r6⟩
  · have e270 : jC (d + 4) 270 [.ref a, .int v] μ = some (some (.ref a), jsetI μ2 a 3 (N (s.length + (dec v).length))) := by
      rw [jC_run (by decide)]
      show jR (d + 4) 270 0 [.ref a, .int v, .retAddr 0, .retAddr 0] [] μ = _
      simp only [b270_0, b270_10, b270_17, b270_21, b270_33, b270_48, gI1, gR1, pI1, pR1, rv1, Option.bind_some, Option.bind_none, if_true, if_false, true_or, or_true, false_or, or_false, true_and, and_true, false_and, and_false, decide_eq_true_eq, decide_true, decide_false, eq_self, not_true_eq_false, not_false_eq_true, jfit0, N_lit, N_add, N_mul, NEG_eq, pl_none, pl_some, rf_some, rf_none, jun_ref, jun_null, ir_ref, ir_null, jr_rf, jun_rf, Option.toList_some, Option.toList_none, List.nil_append, List.cons_append, h.1.1, h.1.2.2.1, x_stringSize, r1, a1, sb_latin hx1 hbv, n10, a4, g1, hk2]
    rw [jC_run (by decide)]
    show jR (d + 5) 293 0 [.ref a, .int v] [] μ = _
    simp only [b293_0, b293_5, gI1, gR1, pI1, pR1, rv1, aI_eq, aB_eq, aR_eq, sI_eq, sB_eq, sR_eq, Option.bind_some, Option.bind_none, if_true, if_false, true_or, or_true, false_or, or_false, true_and, and_true, false_and, and_false, decide_eq_true_eq, decide_true, decide_false, eq_self, not_true_eq_false, not_false_eq_true, jfit0, N_lit, N_add, N_mul, NEG_eq, pl_none, pl_some, rf_some, rf_none, jun_ref, jun_null, ir_ref, ir_null, jr_rf, jun_rf, Option.toList_some, Option.toList_none, List.nil_append, List.cons_append, h.1.1, e270]
  · have hat : ¬ a = t1 := fun e => hne e.symm
    refine BV.app (u := dec v) hbv r3 (by rw [jk_setI]; exact g2.kk) (by rw [jl_setI]; exact g2.ll) ?_ ?_ (by rw [rv_setI]; exact g2.rv id) (fun j hj => ?_) (fun i c' hc' => ?_)
    · simp only [ty_setI, ty_setR, ty_rowI, ty_rowR, jk_setI, jk_setR, jk_rowI, jk_rowR, jl_setI, jl_setR, jl_rowI, jl_rowR, sz_setI, sz_setR, sz_rowI, sz_rowR, ext_setI, ext_setR, iv_setI, iv_setR, iv_rowI, iv_rowR, rv_setI, rv_setR, rv_rowI, rv_rowR, iv_setIn, iv_rowIn, rv_setRn, rv_rowRn, iv_rowIe, rv_rowRe, show ¬ (1 : Nat) = 3 by decide, and_false, if_false]; rw [g2.iv hat]; exact a2
    · simp only [ty_setI, ty_setR, ty_rowI, ty_rowR, jk_setI, jk_setR, jk_rowI, jk_rowR, jl_setI, jl_setR, jl_rowI, jl_rowR, sz_setI, sz_setR, sz_rowI, sz_rowR, ext_setI, ext_setR, iv_setI, iv_setR, iv_rowI, iv_rowR, rv_setI, rv_setR, rv_rowI, rv_rowR, iv_setIn, iv_rowIn, rv_setRn, rv_rowRn, iv_rowIe, rv_rowRe, and_self, if_true]
    · simp only [ty_setI, ty_setR, ty_rowI, ty_rowR, jk_setI, jk_setR, jk_rowI, jk_rowR, jl_setI, jl_setR, jl_rowI, jl_rowR, sz_setI, sz_setR, sz_rowI, sz_rowR, ext_setI, ext_setR, iv_setI, iv_setR, iv_rowI, iv_rowR, rv_setI, rv_setR, rv_rowI, rv_rowR, iv_setIn, iv_rowIn, rv_setRn, rv_rowRn, iv_rowIe, rv_rowRe, hne, false_and, if_false]; exact g3 j (by omega)
    · simp only [ty_setI, ty_setR, ty_rowI, ty_rowR, jk_setI, jk_setR, jk_rowI, jk_rowR, jl_setI, jl_setR, jl_rowI, jl_rowR, sz_setI, sz_setR, sz_rowI, sz_rowR, ext_setI, ext_setR, iv_setI, iv_setR, iv_rowI, iv_rowR, rv_setI, rv_setR, rv_rowI, rv_rowR, iv_setIn, iv_rowIn, rv_setRn, rv_rowRn, iv_rowIe, rv_rowRe, hne, false_and, if_false]
      have := g4 i c' hc'
      rw [show s.length + (dec v).length - (dec v).length + i = s.length + i by omega] at this
      exact ⟨this, dec_ch (List.mem_of_getElem? hc')⟩
theorem sb_str (hx : jX μ) (hj : JW μ) (h : BV μ a t cap s) (hs : ST μ b tb u) (hm : s.length + u.length ≤ 40) : ∃ μ' t' cap', jC (d + 6) 294 [.ref a, .ref b] μ = some (some (.ref a), μ') ∧ BV μ' a t' cap' (s ++ u) ∧ gr cap (s.length + u.length) cap' ∧ Fa (fun b => b = a ∨ b = t) (fun b _ => b = a) (gn cap (s.length + u.length)) (80 * gn cap (s.length + u.length)) μ μ' ∧ (t' = t ∨ t' = jsz μ) := by
  obtain ⟨μ1, t1, cap1, r1, h1, r3, r4, F, r6⟩ := sb_ensure (d := d + 1) hj h hm
  have hx1 := hx.of F.1
  have hba : ¬ b = a := fun e => by
    rcases hs.1 with g | g
    · rw [e, h.1.1] at g; exact absurd g (by decide)
    · rw [e, h.1.1] at g; exact absurd g (by decide)
  have hs1 := hs.fa hj F id id hba
  have hne : ¬ t1 = a := fun e => h1.ne e.symm
  have hat : ¬ a = t1 := fun e => hne e.symm
  have hbv := h1
  obtain ⟨⟨a1, a2, a3, a4⟩, ⟨b1, b2, b3, b4⟩, c1⟩ := h1
  have hu := hs1.2.2.2.2.2.1
  have hcp := cp_B (μ := μ1) (a := tb) (b := t1) (sp := 0) (dp := s.length) (n0 := u.length) (by rcases hs1.2.2.2.1 with g | g; · exact Or.inr g
                                                                                                 · exact Or.inl g) b1 (by rw [hs1.2.2.2.2.1]; omega) (by rw [b2]; exact r3) (by rw [hs1.2.2.2.2.1]; omega) (by rw [b2]; omega)
  generalize hμ2 : jrowI μ1 t1 (va_cpy (jiv μ1 tb) (jiv μ1 t1) 0 s.length u.length) = μ2 at hcp
  have g2 : Fx (fun b => b = t1) (fun _ _ => False) μ1 μ2 := by
    rw [← hμ2]
    refine Fx.rowI Fx.refl ?_
    show t1 = t1; rfl
  have hk2 : jk μ2 a = 1 := by rw [g2.kk]; exact a1
  have h32 : jiv μ2 a 3 = N s.length := by rw [g2.iv hat]; exact a3
  have G : Fx (fun b => b = a ∨ b = t1) (fun _ _ => False) μ1 (jsetI μ2 a 3 (N (s.length + u.length))) := by
    refine Fx.setI (Fx.mono g2 (fun b hb => Or.inr hb) (fun _ _ g => g)) ?_
    show a = a ∨ a = t1; exact Or.inl rfl
  refine ⟨jsetI μ2 a 3 (N (s.length + u.length)), t1, cap1, ?_, ?_, r4, sb_comp F r6 G, r6⟩
  · have e273 : jC (d + 3) 273 [.ref a, .ref b] μ1 = some (none, μ1) := by
      rw [jC_run (by decide)]
      show jR (d + 3) 273 0 [.ref a, .ref b] [] μ1 = _
      rw [b273_0 (hx := hx1) (h1 := ir_ref), if_neg (by decide)]
      simp only [b273_14, b273_21, gI1, gR1, pI1, pR1, rv1, aI_eq, aB_eq, aR_eq, sI_eq, sB_eq, sR_eq, Option.bind_some, Option.bind_none, if_true, if_false, true_or, or_true, false_or, or_false, true_and, and_true, false_and, and_false, decide_eq_true_eq, decide_true, decide_false, eq_self, not_true_eq_false, not_false_eq_true, jfit0, N_lit, N_add, N_mul, NEG_eq, pl_none, pl_some, rf_some, rf_none, jun_ref, jun_null, ir_ref, ir_null, jr_rf, jun_rf, Option.toList_some, Option.toList_none, List.nil_append, List.cons_append, a1, a2, rv0' hs1.1, st_coder hx1 hs1]
    have e286 : jC (d + 3) 286 [.ref b, .ref t1, .int (N s.length), .int (N 0)] μ1 = some (none, μ2) := by
      rw [jC_run (by decide)]
      show jR (d + 3) 286 0 [.ref b, .ref t1, .int (N s.length), .int (N 0)] [] μ1 = _
      simp only [b286_0, b286_4, b286_43, Option.bind_some, Option.bind_none, if_true, if_false, true_or, or_true, false_or, or_false, true_and, and_true, false_and, and_false, decide_eq_true_eq, decide_true, decide_false, eq_self, not_true_eq_false, not_false_eq_true, jfit0, N_lit, N_add, N_mul, NEG_eq, pl_none, pl_some, rf_some, rf_none, jun_ref, jun_null, ir_ref, ir_null, jr_rf, jun_rf, Option.toList_some, Option.toList_none, List.nil_append, List.cons_append, rv0' hs1.1, st_coder hx1 hs1, gR0' hs1.1, hs1.2.2.1, hs1.al, shl0, hcp]
    have e272 : jC (d + 4) 272 [.ref a, .int (N s.length), .ref b] μ1 = some (none, μ2) := by
      rw [jC_run (by decide)]
      show jR (d + 4) 272 0 [.ref a, .int (N s.length), .ref b] [] μ1 = _
      simp only [b272_0, b272_5, b272_18, gI1, gR1, pI1, pR1, rv1, Option.bind_some, Option.bind_none, if_true, if_false, true_or, or_true, false_or, or_false, true_and, and_true, false_and, and_false, decide_eq_true_eq, decide_true, decide_false, eq_self, not_true_eq_false, not_false_eq_true, jfit0, N_lit, N_add, N_mul, NEG_eq, pl_none, pl_some, rf_some, rf_none, jun_ref, jun_null, ir_ref, ir_null, jr_rf, jun_rf, Option.toList_some, Option.toList_none, List.nil_append, List.cons_append, a1, a2, a4, e273, rv0' hs1.1, e286]
    have e271 : jC (d + 5) 271 [.ref a, .ref b] μ = some (some (.ref a), jsetI μ2 a 3 (N (s.length + u.length))) := by
      rw [jC_run (by decide)]
      show jR (d + 5) 271 0 [.ref a, .ref b, .retAddr 0] [] μ = _
      simp only [b271_0, b271_13, b271_24, b271_33, gI1, gR1, pI1, pR1, rv1, Option.bind_some, Option.bind_none, if_true, if_false, true_or, or_true, false_or, or_false, true_and, and_true, false_and, and_false, decide_eq_true_eq, decide_true, decide_false, eq_self, not_true_eq_false, not_false_eq_true, jfit0, N_lit, N_add, N_mul, NEG_eq, pl_none, pl_some, rf_some, rf_none, jun_ref, jun_null, ir_ref, ir_null, jr_rf, jun_rf, Option.toList_some, Option.toList_none, List.nil_append, List.cons_append, rv0' hs.1, st_length hx hs, h.1.1, h.1.2.2.1, r1, a1, a3, e272, hk2, h32]
      rfl
    rw [jC_run (by decide)]
    show jR (d + 6) 294 0 [.ref a, .ref b] [] μ = _
    simp only [b294_0, b294_5, gI1, gR1, pI1, pR1, rv1, aI_eq, aB_eq, aR_eq, sI_eq, sB_eq, sR_eq, Option.bind_some, Option.bind_none, if_true, if_false, true_or, or_true, false_or, or_false, true_and, and_true, false_and, and_false, decide_eq_true_eq, decide_true, decide_false, eq_self, not_true_eq_false, not_false_eq_true, jfit0, N_lit, N_add, N_mul, NEG_eq, pl_none, pl_some, rf_some, rf_none, jun_ref, jun_null, ir_ref, ir_null, jr_rf, jun_rf, Option.toList_some, Option.toList_none, List.nil_append, List.cons_append, h.1.1, e271]
  · refine BV.app (u := u) hbv r3 (by rw [jk_setI]; exact g2.kk) (by rw [jl_setI]; exact g2.ll) ?_ ?_ (by rw [rv_setI]; exact g2.rv id) (fun j hj => ?_) (fun i c' hc' => ?_)
    · simp only [ty_setI, ty_setR, ty_rowI, ty_rowR, jk_setI, jk_setR, jk_rowI, jk_rowR, jl_setI, jl_setR, jl_rowI, jl_rowR, sz_setI, sz_setR, sz_rowI, sz_rowR, ext_setI, ext_setR, iv_setI, iv_setR, iv_rowI, iv_rowR, rv_setI, rv_setR, rv_rowI, rv_rowR, iv_setIn, iv_rowIn, rv_setRn, rv_rowRn, iv_rowIe, rv_rowRe, show ¬ (1 : Nat) = 3 by decide, and_false, if_false]; rw [g2.iv hat]; exact a2
    · simp only [ty_setI, ty_setR, ty_rowI, ty_rowR, jk_setI, jk_setR, jk_rowI, jk_rowR, jl_setI, jl_setR, jl_rowI, jl_rowR, sz_setI, sz_setR, sz_rowI, sz_rowR, ext_setI, ext_setR, iv_setI, iv_setR, iv_rowI, iv_rowR, rv_setI, rv_setR, rv_rowI, rv_rowR, iv_setIn, iv_rowIn, rv_setRn, rv_rowRn, iv_rowIe, rv_rowRe, and_self, if_true]
    · simp only [ty_setI, ty_setR, ty_rowI, ty_rowR, jk_setI, jk_setR, jk_rowI, jk_rowR, jl_setI, jl_setR, jl_rowI, jl_rowR, sz_setI, sz_setR, sz_rowI, sz_rowR, ext_setI, ext_setR, iv_setI, iv_setR, iv_rowI, iv_rowR, rv_setI, rv_setR, rv_rowI, rv_rowR, iv_setIn, iv_rowIn, rv_setRn, rv_rowRn, iv_rowIe, rv_rowRe, hne, false_and, if_false]
      rw [← hμ2, iv_rowIe]
      unfold va_cpy
      rw [if_neg (by omega)]
    · simp only [ty_setI, ty_setR, ty_rowI, ty_rowR, jk_setI, jk_setR, jk_rowI, jk_rowR, jl_setI, jl_setR, jl_rowI, jl_rowR, sz_setI, sz_setR, sz_rowI, sz_rowR, ext_setI, ext_setR, iv_setI, iv_setR, iv_rowI, iv_rowR, rv_setI, rv_setR, rv_rowI, rv_rowR, iv_setIn, iv_rowIn, rv_setRn, rv_rowRn, iv_rowIe, rv_rowRe, hne, false_and, if_false]
      have hi : i < u.length := (List.getElem?_eq_some_iff.mp hc').1
      rw [← hμ2, iv_rowIe]
      unfold va_cpy
      rw [if_pos (by omega), show 0 + (s.length + i - s.length) = i by omega]
      exact hs1.2.2.2.2.2.2 i c' hc'
theorem sb_new (hx : jX μ) (hj : JW μ) (hk : jk μ a = 1) (h3 : jiv μ a 3 = N 0) : ∃ μ', jC (d + 2) 291 [.ref a] μ = some (none, μ') ∧ BV μ' a (jsz μ) 16 [] ∧ Fa (fun b => b = a) (fun b _ => b = a) 1 16 μ μ' ∧ jsz μ' = jsz μ + 1 := by
  have hl := hj.lt (ne99 hk (by decide))
  have hne : ¬ jsz μ = a := by omega
  have F0 : Fa (fun b => b = a) (fun b _ => b = a) 1 16 μ (jnew μ 22 16 16) := Fa.new hj
  have k0 : jk (jnew μ 22 16 16) a = 1 := by rw [nk_n hl]; exact hk
  have F1 : Fx (fun b => b = a) (fun b _ => b = a) (jnew μ 22 16 16) (jsetI (jsetR (jnew μ 22 16 16) a 0 (some (jsz μ))) a 1 (N 0)) := by
    refine Fx.setI (Fx.setR Fx.refl ?_) ?_
    · show a = a; rfl
    · show a = a; rfl
  refine ⟨jsetI (jsetR (jnew μ 22 16 16) a 0 (some (jsz μ))) a 1 (N 0), ?_, ⟨⟨k0, ?_, ?_, ?_⟩, ⟨nk_e (w := 16), nl_e (w := 16), Nat.zero_le _, by decide⟩, fun i c hc => by simp at hc⟩, ?_, rfl⟩
  · have e265 : jC (d + 1) 265 [.ref a, .int (N 16)] μ = some (none, jsetI (jsetR (jnew μ 22 16 16) a 0 (some (jsz μ))) a 1 (N 0)) := by
      rw [jC_run (by decide)]
      show jR (d + 1) 265 0 [.ref a, .int (N 16)] [] μ = _
      rw [b265_0 (hx := hx), if_neg (by decide)]
      simp only [jnA_N (show 16 ≤ 65536 by decide), gI1, gR1, pI1, pR1, rv1, Option.bind_some, Option.bind_none, if_true, if_false, true_or, or_true, false_or, or_false, true_and, and_true, false_and, and_false, decide_eq_true_eq, decide_true, decide_false, eq_self, not_true_eq_false, not_false_eq_true, jfit0, N_lit, N_add, N_mul, NEG_eq, pl_none, pl_some, rf_some, rf_none, jun_ref, jun_null, ir_ref, ir_null, jr_rf, jun_rf, Option.toList_some, Option.toList_none, List.nil_append, List.cons_append, k0, jk_setR, show jfit 3 (N 0) = true from rfl, b265_38]
    rw [jC_run (by decide)]
    show jR (d + 2) 291 0 [.ref a] [] μ = _
    simp only [b291_0, b291_6, aI_eq, aB_eq, aR_eq, sI_eq, sB_eq, sR_eq, Option.bind_some, Option.bind_none, if_true, if_false, true_or, or_true, false_or, or_false, true_and, and_true, false_and, and_false, decide_eq_true_eq, decide_true, decide_false, eq_self, not_true_eq_false, not_false_eq_true, jfit0, N_lit, N_add, N_mul, NEG_eq, pl_none, pl_some, rf_some, rf_none, jun_ref, jun_null, ir_ref, ir_null, jr_rf, jun_rf, Option.toList_some, Option.toList_none, List.nil_append, List.cons_append, e265]
  · simp only [ty_setI, ty_setR, ty_rowI, ty_rowR, jk_setI, jk_setR, jk_rowI, jk_rowR, jl_setI, jl_setR, jl_rowI, jl_rowR, sz_setI, sz_setR, sz_rowI, sz_rowR, ext_setI, ext_setR, iv_setI, iv_setR, iv_rowI, iv_rowR, rv_setI, rv_setR, rv_rowI, rv_rowR, iv_setIn, iv_rowIn, rv_setRn, rv_rowRn, iv_rowIe, rv_rowRe, and_self, if_true]
  · simp only [ty_setI, ty_setR, ty_rowI, ty_rowR, jk_setI, jk_setR, jk_rowI, jk_rowR, jl_setI, jl_setR, jl_rowI, jl_rowR, sz_setI, sz_setR, sz_rowI, sz_rowR, ext_setI, ext_setR, iv_setI, iv_setR, iv_rowI, iv_rowR, rv_setI, rv_setR, rv_rowI, rv_rowR, iv_setIn, iv_rowIn, rv_setRn, rv_rowRn, iv_rowIe, rv_rowRe, show ¬ (3 : Nat) = 1 by decide, and_false, if_false]
    rw [nv_n hl]; exact h3
  · simp only [ty_setI, ty_setR, ty_rowI, ty_rowR, jk_setI, jk_setR, jk_rowI, jk_rowR, jl_setI, jl_setR, jl_rowI, jl_rowR, sz_setI, sz_setR, sz_rowI, sz_rowR, ext_setI, ext_setR, iv_setI, iv_setR, iv_rowI, iv_rowR, rv_setI, rv_setR, rv_rowI, rv_rowR, iv_setIn, iv_rowIn, rv_setRn, rv_rowRn, iv_rowIe, rv_rowRe, and_self, if_true]
  · have F2 := F0.trans (F1.fa F0.jw) (fun _ _ g => g) (fun _ _ _ g => g)
    exact F2.mono (fun _ _ g => g) (fun _ _ _ g => g) (by omega) (by omega)
theorem sb_length (h : BV μ a t cap s) : jC (d + 1) 295 [.ref a] μ = some (some (.int (N s.length)), μ) := by
  have e274 : jC d 274 [.ref a] μ = some (some (.int (N s.length)), μ) := by
    rw [jC_run (by decide)]
    show jR d 274 0 [.ref a] [] μ = _
    simp only [b274_0, gI1, gR1, pI1, pR1, rv1, aI_eq, aB_eq, aR_eq, sI_eq, sB_eq, sR_eq, Option.bind_some, Option.bind_none, if_true, if_false, true_or, or_true, false_or, or_false, true_and, and_true, false_and, and_false, decide_eq_true_eq, decide_true, decide_false, eq_self, not_true_eq_false, not_false_eq_true, jfit0, N_lit, N_add, N_mul, NEG_eq, pl_none, pl_some, rf_some, rf_none, jun_ref, jun_null, ir_ref, ir_null, jr_rf, jun_rf, Option.toList_some, Option.toList_none, List.nil_append, List.cons_append, h.1.1, h.1.2.2.1]
  rw [jC_run (by decide)]
  show jR (d + 1) 295 0 [.ref a] [] μ = _
  simp only [b295_0, b295_4, gI1, gR1, pI1, pR1, rv1, aI_eq, aB_eq, aR_eq, sI_eq, sB_eq, sR_eq, Option.bind_some, Option.bind_none, if_true, if_false, true_or, or_true, false_or, or_false, true_and, and_true, false_and, and_false, decide_eq_true_eq, decide_true, decide_false, eq_self, not_true_eq_false, not_false_eq_true, jfit0, N_lit, N_add, N_mul, NEG_eq, pl_none, pl_some, rf_some, rf_none, jun_ref, jun_null, ir_ref, ir_null, jr_rf, jun_rf, Option.toList_some, Option.toList_none, List.nil_append, List.cons_append, h.1.1, e274]
theorem sb_charAt (hx : jX μ) (h : BV μ a t cap s) (hc : s[i]? = some c) : jC (d + 4) 296 [.ref a, .int (N i)] μ = some (some (.int (N c)), μ) := by
  have hi : i < s.length := (List.getElem?_eq_some_iff.mp hc).1
  obtain ⟨⟨a1, a2, a3, a4⟩, ⟨b1, b2, b3, b4⟩, c1⟩ := h
  have hc1 := (c1 i c hc).2
  have r1 : jisref (jext μ 1) = true := hx.2 1 (Or.inl rfl) (by decide)
  have e312 : jC (d + 1) 312 [.int (N i), .int (N s.length), jext μ 1] μ = some (some (.int (N i)), μ) := by
    rw [jC_run (by decide)]
    show jR (d + 1) 312 0 [.int (N i), .int (N s.length), jext μ 1] [] μ = _
    rw [b312_0 (h2 := r1)]
    simp only [aI_eq, aB_eq, aR_eq, sI_eq, sB_eq, sR_eq, Option.bind_some, Option.bind_none, if_true, if_false, true_or, or_true, false_or, or_false, true_and, and_true, false_and, and_false, decide_eq_true_eq, decide_true, decide_false, eq_self, not_true_eq_false, not_false_eq_true, jfit0, N_lit, N_add, N_mul, NEG_eq, pl_none, pl_some, rf_some, rf_none, jun_ref, jun_null, ir_ref, ir_null, jr_rf, jun_rf, Option.toList_some, Option.toList_none, List.nil_append, List.cons_append, N_lt (show i < 2147483648 by omega) (show 0 < 2147483648 by decide), Nat.not_lt_zero, N_lt (show i < 2147483648 by omega) (show s.length < 2147483648 by omega), hi]
  have e285 : jC (d + 2) 285 [.int (N i), .int (N s.length)] μ = some (none, μ) := by
    rw [jC_run (by decide)]
    show jR (d + 2) 285 0 [.int (N i), .int (N s.length)] [] μ = _
    rw [b285_0 (hx := hx)]
    simp only [aI_eq, aB_eq, aR_eq, sI_eq, sB_eq, sR_eq, Option.bind_some, Option.bind_none, if_true, if_false, true_or, or_true, false_or, or_false, true_and, and_true, false_and, and_false, decide_eq_true_eq, decide_true, decide_false, eq_self, not_true_eq_false, not_false_eq_true, jfit0, N_lit, N_add, N_mul, NEG_eq, pl_none, pl_some, rf_some, rf_none, jun_ref, jun_null, ir_ref, ir_null, jr_rf, jun_rf, Option.toList_some, Option.toList_none, List.nil_append, List.cons_append, e312, b285_8]
  have e275 : jC (d + 3) 275 [.ref a, .int (N i)] μ = some (some (.int (N c)), μ) := by
    rw [jC_run (by decide)]
    show jR (d + 3) 275 0 [.ref a, .int (N i), .retAddr 0, .retAddr 0, .retAddr 0] [] μ = _
    simp only [b275_0, b275_21, b275_29, gI1, gR1, pI1, pR1, rv1, aI_eq, aB_eq, aR_eq, sI_eq, sB_eq, sR_eq, Option.bind_some, Option.bind_none, if_true, if_false, true_or, or_true, false_or, or_false, true_and, and_true, false_and, and_false, decide_eq_true_eq, decide_true, decide_false, eq_self, not_true_eq_false, not_false_eq_true, jfit0, N_lit, N_add, N_mul, NEG_eq, pl_none, pl_some, rf_some, rf_none, jun_ref, jun_null, ir_ref, ir_null, jr_rf, jun_rf, Option.toList_some, Option.toList_none, List.nil_append, List.cons_append, a1, a2, a3, a4, alen_of b1 (by decide), b1, b2, shr0, math_min, imin_N (show s.length < 2147483648 by omega) (show cap < 2147483648 by omega), Nat.min_eq_left b3, e285, jinb_N (show i < 2147483648 by omega), show i < cap by omega, N_nat (show i < 2147483648 by omega), (c1 i c hc).1, ch_1 hc1, ch_2 hc1]
  rw [jC_run (by decide)]
  show jR (d + 4) 296 0 [.ref a, .int (N i)] [] μ = _
  simp only [b296_0, b296_5, gI1, gR1, pI1, pR1, rv1, aI_eq, aB_eq, aR_eq, sI_eq, sB_eq, sR_eq, Option.bind_some, Option.bind_none, if_true, if_false, true_or, or_true, false_or, or_false, true_and, and_true, false_and, and_false, decide_eq_true_eq, decide_true, decide_false, eq_self, not_true_eq_false, not_false_eq_true, jfit0, N_lit, N_add, N_mul, NEG_eq, pl_none, pl_some, rf_some, rf_none, jun_ref, jun_null, ir_ref, ir_null, jr_rf, jun_rf, Option.toList_some, Option.toList_none, List.nil_append, List.cons_append, a1, e275, ch_2 hc1]
theorem sb_toString (hx : jX μ) (hj : JW μ) (h : BV μ a t cap s) : ∃ μ' tr, jC (d + 6) 297 [.ref a] μ = some (some (.ref (jsz μ)), μ') ∧ ST μ' (jsz μ) tr s ∧ jsz μ ≤ tr ∧ Fa (fun _ => False) (fun _ _ => False) 2 (4 + s.length) μ μ' := by
  obtain ⟨l1, l2⟩ := h.lt hj
  have F0 : Fa (fun _ => False) (fun _ _ => False) 1 4 μ (jnew μ 0 0 4) := Fa.new hj
  have h0 := h.fa hj F0 id id id
  have hx0 : jX (jnew μ 0 0 4) := hx.of F0.1
  have kn : jk (jnew μ 0 0 4) (jsz μ) = 0 := nk_e
  have nz : jsz (jnew μ 0 0 4) = jsz μ + 1 := rfl
  generalize hμ0 : jnew μ 0 0 4 = μ0 at *
  have kc : jk (jsetI μ0 (jsz μ) 1 (N 0)) (jsz μ) = 0 := by rw [jk_setI]; exact kn
  have F1 : Fa (fun b => b = jsz μ) (fun _ _ => False) 0 0 μ0 (jsetI μ0 (jsz μ) 1 (N 0)) := by
    refine Fx.fa (Fx.setI Fx.refl ?_) F0.jw
    show jsz μ = jsz μ; rfl
  have ha1 : ¬ a = jsz μ := by omega
  have ht1 : ¬ t = jsz μ := by omega
  have h1 := h0.fa F0.jw F1 ha1 ht1 id
  have nz1 : jsz (jsetI μ0 (jsz μ) 1 (N 0)) = jsz μ + 1 := nz
  have hc1 : jiv (jsetI μ0 (jsz μ) 1 (N 0)) (jsz μ) 1 = N 0 := by simp only [ty_setI, ty_setR, ty_rowI, ty_rowR, jk_setI, jk_setR, jk_rowI, jk_rowR, jl_setI, jl_setR, jl_rowI, jl_rowR, sz_setI, sz_setR, sz_rowI, sz_rowR, ext_setI, ext_setR, iv_setI, iv_setR, iv_rowI, iv_rowR, rv_setI, rv_setR, rv_rowI, rv_rowR, iv_setIn, iv_rowIn, rv_setRn, rv_rowRn, iv_rowIe, rv_rowRe, and_self, if_true]
  generalize hμ1 : jsetI μ0 (jsz μ) 1 (N 0) = μ1 at *
  obtain ⟨⟨a1, a2, a3, a4⟩, ⟨b1, b2, b3, b4⟩, c1⟩ := h1
  -- the bytes
  have bytes : ∃ μ2, jC (d + 3) 307 [.ref t, .int (N 0), .int (N s.length)] μ1 = some (some (.ref (jsz μ + 1)), μ2) ∧ Fa (fun _ => False) (fun _ _ => False) 1 s.length μ1 μ2 ∧ jk μ2 (jsz μ + 1) = 22 ∧ jl μ2 (jsz μ + 1) = s.length ∧ ∀ j, j < s.length → jiv μ2 (jsz μ + 1) j = jiv μ1 t j := by
    rw [← nz1]
    rw [jC_run (by decide)]
    show ∃ μ2, jR (d + 3) 307 0 [.ref t, .int (N 0), .int (N s.length)] [] μ1 = _ ∧ _
    rw [b307_0 (h0 := ir_ref)]
    simp only [alen_of b1 (by decide), b2, N_lit, if_true, Option.bind_some, N_inj (show s.length < 2147483648 by omega) (show cap < 2147483648 by omega)]
    by_cases e : s.length = cap
    · obtain ⟨d1, d2, d3, d4, d5, d6⟩ := x_cloneB F1.jw b1
      rw [b2, ← e] at d2 d3 d4 d5 d6
      refine ⟨_, ?_, d4, d5, d6, fun j _ => ?_⟩
      · simp only [if_pos e, d1, d2, if_true, Option.bind_some, d3]
      · rw [iv_rowIe]
    · rw [if_neg e]
      have F2 : Fa (fun _ => False) (fun _ _ => False) 1 s.length μ1 (jnew μ1 22 s.length s.length) := Fa.new F1.jw
      have lt1 : t < jsz μ1 := by rw [nz1]; omega
      have k1 : jk (jnew μ1 22 s.length s.length) t = 22 := by rw [nk_n lt1]; exact b1
      have k2 : jk (jnew μ1 22 s.length s.length) (jsz μ1) = 22 := nk_e
      have q1 : jl (jnew μ1 22 s.length s.length) t = cap := by rw [nl_n lt1]; exact b2
      have q2 : jl (jnew μ1 22 s.length s.length) (jsz μ1) = s.length := nl_e
      have e309 : jC (d + 1) 309 [.int (N 0), .int (N s.length)] μ1 = some (none, μ1) := by
        rw [jC_run (by decide)]
        show jR (d + 1) 309 0 [.int (N 0), .int (N s.length)] [] μ1 = _
        rw [b309_0, if_neg]
        rw [N_lt (by omega) (by decide)]; omega
      have e308 : jC (d + 2) 308 [.ref t, .int (N 0), .int (N s.length)] μ1 = some (some (.ref (jsz μ1)), jrowI (jnew μ1 22 s.length s.length) (jsz μ1) (va_cpy (jiv (jnew μ1 22 s.length s.length) t) (jiv (jnew μ1 22 s.length s.length) (jsz μ1)) 0 0 s.length)) := by
        rw [jC_run (by decide)]
        show jR (d + 2) 308 0 [.ref t, .int (N 0), .int (N s.length), .retAddr 0, .retAddr 0] [] μ1 = _
        rw [b308_0 (h0 := ir_ref), e309]
        simp only [Option.bind_some, Option.toList_none, List.nil_append]
        rw [b308_5 (h0 := ir_ref)]
        simp only [N_sub (show 0 ≤ s.length by omega), N_sub (show 0 ≤ cap by omega), Nat.sub_zero, jnA_N (show s.length ≤ 65536 by omega), Option.bind_some, alen_of k1 (by decide), q1, math_min, imin_N (show cap < 2147483648 by omega) (show s.length < 2147483648 by omega), Nat.min_eq_right b3, Option.toList_some, List.cons_append, List.nil_append]
        rw [b308_27 (h4 := ir_ref) (hs0 := ir_ref) (hs2 := ir_ref)]
        rw [N_lit, cp_B (Or.inl k1) k2 (by omega) (by omega) (by omega) (by omega)]
        rfl
      refine ⟨jrowI (jnew μ1 22 s.length s.length) (jsz μ1) (va_cpy (jiv (jnew μ1 22 s.length s.length) t) (jiv (jnew μ1 22 s.length s.length) (jsz μ1)) 0 0 s.length), ?_, ?_, k2, q2, fun j hj => ?_⟩
      · rw [b307_10 (h0 := ir_ref), e308]
        simp only [Option.bind_some, Option.toList_some, List.cons_append, List.nil_append]
        rw [b307_16 (hs0 := ir_ref)]
      · have G : Fx (fun b => b = jsz μ1) (fun _ _ => False) (jnew μ1 22 s.length s.length) (jrowI (jnew μ1 22 s.length s.length) (jsz μ1) (va_cpy (jiv (jnew μ1 22 s.length s.length) t) (jiv (jnew μ1 22 s.length s.length) (jsz μ1)) 0 0 s.length)) := by
          refine Fx.rowI Fx.refl ?_
          show jsz μ1 = jsz μ1; rfl
        have G2 := F2.trans (G.fa F2.jw) (fun b hb g => by have g : b = jsz μ1 := g; omega) (fun _ _ _ g => g)
        exact G2.mono (fun _ _ g => g) (fun _ _ _ g => g) (by omega) (by omega)
      · rw [iv_rowIe]
        unfold va_cpy
        rw [if_pos (by omega), nv_n lt1, show 0 + (j - 0) = j by omega]
  obtain ⟨μ2, y1, y2, y3, y4, y5⟩ := bytes
  have l0 : jsz μ < jsz μ1 := by rw [nz1]; omega
  have k2 : jk μ2 (jsz μ) = 0 := by rw [y2.kk l0]; exact kc
  refine ⟨jsetR μ2 (jsz μ) 0 (some (jsz μ + 1)), jsz μ + 1, ?_, ⟨Or.inl k2, ?_, ?_, Or.inr y3, y4, by omega, fun i c hc => ?_⟩, by omega, ?_⟩
  · have e276 : jC (d + 3) 276 [.ref a] μ0 = some (some (.ref t), μ0) := by
      rw [jC_run (by decide)]
      show jR (d + 3) 276 0 [.ref a] [] μ0 = _
      simp only [b276_0, gI1, gR1, pI1, pR1, rv1, aI_eq, aB_eq, aR_eq, sI_eq, sB_eq, sR_eq, Option.bind_some, Option.bind_none, if_true, if_false, true_or, or_true, false_or, or_false, true_and, and_true, false_and, and_false, decide_eq_true_eq, decide_true, decide_false, eq_self, not_true_eq_false, not_false_eq_true, jfit0, N_lit, N_add, N_mul, NEG_eq, pl_none, pl_some, rf_some, rf_none, jun_ref, jun_null, ir_ref, ir_null, jr_rf, jun_rf, Option.toList_some, Option.toList_none, List.nil_append, List.cons_append, h0.1.1, h0.1.2.2.2]
    have e290 : jC (d + 4) 290 [.ref (jsz μ), .ref a, .null] μ0 = some (none, jsetR μ2 (jsz μ) 0 (some (jsz μ + 1))) := by
      rw [jC_run (by decide)]
      show jR (d + 4) 290 0 [.ref (jsz μ), .ref a, .null, .retAddr 0, .retAddr 0] [] μ0 = _
      rw [b290_0 (h1 := ir_ref)]
      simp only [gI1, gR1, pI1, pR1, rv1, aI_eq, aB_eq, aR_eq, sI_eq, sB_eq, sR_eq, Option.bind_some, Option.bind_none, if_true, if_false, true_or, or_true, false_or, or_false, true_and, and_true, false_and, and_false, decide_eq_true_eq, decide_true, decide_false, eq_self, not_true_eq_false, not_false_eq_true, jfit0, N_lit, N_add, N_mul, NEG_eq, pl_none, pl_some, rf_some, rf_none, jun_ref, jun_null, ir_ref, ir_null, jr_rf, jun_rf, Option.toList_some, Option.toList_none, List.nil_append, List.cons_append, h0.1.1, e276]
      rw [b290_8 (h1 := ir_ref) (hs0 := ir_ref)]
      simp only [gI1, gR1, pI1, pR1, rv1, aI_eq, aB_eq, aR_eq, sI_eq, sB_eq, sR_eq, Option.bind_some, Option.bind_none, if_true, if_false, true_or, or_true, false_or, or_false, true_and, and_true, false_and, and_false, decide_eq_true_eq, decide_true, decide_false, eq_self, not_true_eq_false, not_false_eq_true, jfit0, N_lit, N_add, N_mul, NEG_eq, pl_none, pl_some, rf_some, rf_none, jun_ref, jun_null, ir_ref, ir_null, jr_rf, jun_rf, Option.toList_some, Option.toList_none, List.nil_append, List.cons_append, h0.1.1, sb_length h0]
      rw [b290_13 (h1 := ir_ref) (h3 := ir_ref)]
      simp only [gI1, gR1, pI1, pR1, rv1, aI_eq, aB_eq, aR_eq, sI_eq, sB_eq, sR_eq, Option.bind_some, Option.bind_none, if_true, if_false, true_or, or_true, false_or, or_false, true_and, and_true, false_and, and_false, decide_eq_true_eq, decide_true, decide_false, eq_self, not_true_eq_false, not_false_eq_true, jfit0, N_lit, N_add, N_mul, NEG_eq, pl_none, pl_some, rf_some, rf_none, jun_ref, jun_null, ir_ref, ir_null, jr_rf, jun_rf, Option.toList_some, Option.toList_none, List.nil_append, List.cons_append, h0.1.1, sb_latin hx0 h0]
      rw [b290_19 (h1 := ir_ref) (h3 := ir_ref) (hx := hx0), if_neg (by decide)]
      simp only [pI0, kn, show jfit 3 (N 0) = true from rfl, aI_eq, aB_eq, aR_eq, sI_eq, sB_eq, sR_eq, Option.bind_some, Option.bind_none, if_true, if_false, true_or, or_true, false_or, or_false, true_and, and_true, false_and, and_false, decide_eq_true_eq, decide_true, decide_false, eq_self, not_true_eq_false, not_false_eq_true, jfit0, N_lit, N_add, N_mul, NEG_eq, pl_none, pl_some, rf_some, rf_none, jun_ref, jun_null, ir_ref, ir_null, jr_rf, jun_rf, Option.toList_some, Option.toList_none, List.nil_append, List.cons_append, hμ1, y1]
      rw [b290_35 (hs0 := ir_ref) (hs1 := ir_ref)]
      simp only [pR0, k2, aI_eq, aB_eq, aR_eq, sI_eq, sB_eq, sR_eq, Option.bind_some, Option.bind_none, if_true, if_false, true_or, or_true, false_or, or_false, true_and, and_true, false_and, and_false, decide_eq_true_eq, decide_true, decide_false, eq_self, not_true_eq_false, not_false_eq_true, jfit0, N_lit, N_add, N_mul, NEG_eq, pl_none, pl_some, rf_some, rf_none, jun_ref, jun_null, ir_ref, ir_null, jr_rf, jun_rf, Option.toList_some, Option.toList_none, List.nil_append, List.cons_append, b290_97]
    have e289 : jC (d + 5) 289 [.ref (jsz μ), .ref a] μ0 = some (none, jsetR μ2 (jsz μ) 0 (some (jsz μ + 1))) := by
      rw [jC_run (by decide)]
      show jR (d + 5) 289 0 [.ref (jsz μ), .ref a] [] μ0 = _
      rw [b289_0 (h1 := ir_ref)]
      simp only [aI_eq, aB_eq, aR_eq, sI_eq, sB_eq, sR_eq, Option.bind_some, Option.bind_none, if_true, if_false, true_or, or_true, false_or, or_false, true_and, and_true, false_and, and_false, decide_eq_true_eq, decide_true, decide_false, eq_self, not_true_eq_false, not_false_eq_true, jfit0, N_lit, N_add, N_mul, NEG_eq, pl_none, pl_some, rf_some, rf_none, jun_ref, jun_null, ir_ref, ir_null, jr_rf, jun_rf, Option.toList_some, Option.toList_none, List.nil_append, List.cons_append, e290, b289_6]
    rw [jC_run (by decide)]
    show jR (d + 6) 297 0 [.ref a] [] μ = _
    simp only [b297_0, hμ0, e289, aI_eq, aB_eq, aR_eq, sI_eq, sB_eq, sR_eq, Option.bind_some, Option.bind_none, if_true, if_false, true_or, or_true, false_or, or_false, true_and, and_true, false_and, and_false, decide_eq_true_eq, decide_true, decide_false, eq_self, not_true_eq_false, not_false_eq_true, jfit0, N_lit, N_add, N_mul, NEG_eq, pl_none, pl_some, rf_some, rf_none, jun_ref, jun_null, ir_ref, ir_null, jr_rf, jun_rf, Option.toList_some, Option.toList_none, List.nil_append, List.cons_append, b297_8]
  · show jiv μ2 (jsz μ) 1 = N 0
    rw [y2.iv l0 id]; exact hc1
  · simp only [ty_setI, ty_setR, ty_rowI, ty_rowR, jk_setI, jk_setR, jk_rowI, jk_rowR, jl_setI, jl_setR, jl_rowI, jl_rowR, sz_setI, sz_setR, sz_rowI, sz_rowR, ext_setI, ext_setR, iv_setI, iv_setR, iv_rowI, iv_rowR, rv_setI, rv_setR, rv_rowI, rv_rowR, iv_setIn, iv_rowIn, rv_setRn, rv_rowRn, iv_rowIe, rv_rowRe, and_self, if_true]
  · show jiv μ2 (jsz μ + 1) i = N c ∧ c < 128
    rw [y5 i (List.getElem?_eq_some_iff.mp hc).1]
    exact c1 i c hc
  · have G1 := F0.trans F1 (fun b hb g => by have g : b = jsz μ := g; omega) (fun _ _ _ g => g)
    have G2 := G1.trans y2 (fun _ _ g => g) (fun _ _ _ g => g)
    have G3 : Fx (fun _ => False) (fun b _ => b = jsz μ) μ2 (jsetR μ2 (jsz μ) 0 (some (jsz μ + 1))) := by
      refine Fx.setR Fx.refl ?_
      show jsz μ = jsz μ; rfl
    have G4 := G2.trans (G3.fa y2.jw) (fun _ _ g => g) (fun b j hb g => by have g : b = jsz μ := g; omega)
    exact G4.mono (fun _ _ g => g) (fun _ _ _ g => g) (by omega) (by omega)
end APP
