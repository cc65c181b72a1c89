/-! MERGING: make -/
def FK (m : Nat) (μ μ' : jM) : Prop := Fx (fun a => m ≤ a ∧ a < m + 12) (fun a j => a = m + 5 ∨ (a = m ∧ 2 ≤ j ∧ j < 6)) μ μ'
noncomputable def mkR (o : Option (DG × List CL)) : Int32 := match o with
  | none => N 0
  | some _ => N 1
/-- a Merging's own shape -/
def MV (μ : jM) (D m : Nat) : Prop := m + 12 ≤ D ∧ jk μ m = 7 ∧ jrv μ m 0 = some (m + 1) ∧ jrv μ m 1 = some (m + 7) ∧ CV μ (m + 7) ∧ Gs μ (m + 1)
section MAKE
variable {μ μ' μ'' : jM} {B D m b x t r d : Nat} {gb gx gt : DG} {R : Nat → Nat × Nat}
theorem FM.fk (F : FM m μ μ') : FK m μ μ' := Fx.mono F (fun a h => h) (fun a j h => Or.inl h)
theorem MX.mv (h : MX μ B D m b x t r gb gx gt R) : MV μ D m := ⟨h.2.2.2.2.1, h.1.1, h.1.2.1, h.1.2.2.1, h.2.1.1, h.2.1.2.1.2.1⟩
theorem MV.out {S : Nat → Prop} {T : Nat → Nat → Prop} (h : MV μ D m) (F : Fx S T μ μ') (hS : ∀ a, S a → a < m ∨ m + 12 ≤ a) (hT : ∀ a j, T a j → a < m ∨ m + 12 ≤ a) : MV μ' D m ∧ cL μ' (m + 7) = cL μ (m + 7) := by
  obtain ⟨h1, h2, h3, h4, h5, k1, k2, k3⟩ := h
  have hr : ∀ a j, m ≤ a → a < m + 12 → jrv μ' a j = jrv μ a j := fun a j p q => F.rv (fun k => by have := hT _ _ k; omega)
  obtain ⟨c1, c2⟩ := h5.out F (fun a k => by have := hS a k; omega) (fun a j k => by have := hT a j k; omega)
  refine ⟨⟨h1, by rw [F.kk]; exact h2, by rw [hr _ _ (by omega) (by omega)]; exact h3, by rw [hr _ _ (by omega) (by omega)]; exact h4, c1, by rw [F.kk, F.ll]; exact k1, ?_, fun j b hb => ?_⟩, c2⟩
  · simp only [hr (m + 1) _ (by omega) (by omega)]
    exact k2
  · rw [hr _ _ (by omega) (by omega)] at hb
    rw [F.kk]; exact k3 j b hb
/-- the refs laid, no row -/
def mkS (μ : jM) (m b x t r : Nat) : jM := jsetI (jsetR (jsetR (jsetR (jsetR μ m 2 (some b)) m 3 (some x)) m 4 (some t)) m 5 (some r)) (m + 1) 0 (N 0)
theorem mk_start (hv : MV μ D m) (hB : B ≤ m) (hb : GV μ D b) (hx : GV μ D x) (ht : GV μ D t) (hr : RV μ r) (hA : JA μ B) (zb : b + 6 ≤ m ∨ m + 12 ≤ b) (zx : x + 6 ≤ m ∨ m + 12 ≤ x) (zt : t + 6 ≤ m ∨ m + 12 ≤ t) (zr' : r + 3 ≤ m ∨ m + 12 ≤ r) :
    FK m μ (mkS μ m b x t r) ∧ MX (mkS μ m b x t r) B D m b x t r (dG μ (xA b)) (dG μ (xA x)) (dG μ (xA t)) (rL μ r) ∧ dG (mkS μ m b x t r) (xA (m + 1)) = [] := by
  obtain ⟨hD, h7, r0, r1, hC, hG⟩ := hv
  generalize egb : dG μ (xA b) = gb
  generalize egx : dG μ (xA x) = gx
  generalize egt : dG μ (xA t) = gt
  generalize eR : rL μ r = R
  -- the refs laid, no row
  obtain ⟨μ1, hμ1⟩ : ∃ μ1, μ1 = mkS μ m b x t r := ⟨_, rfl⟩
  rw [← hμ1]
  unfold mkS at hμ1
  have F1 : FK m μ μ1 := by
    rw [hμ1]
    have q : ∀ j, 2 ≤ j → j < 6 → (m = m + 5 ∨ (m = m ∧ 2 ≤ j ∧ j < 6)) := fun j h1 h2 => Or.inr ⟨rfl, h1, h2⟩
    unfold FK
    refine Fx.setI (Fx.setR (Fx.setR (Fx.setR (Fx.setR Fx.refl ?_) ?_) ?_) ?_) ?_
    · exact q 2 (by decide) (by decide)
    · exact q 3 (by decide) (by decide)
    · exact q 4 (by decide) (by decide)
    · exact q 5 (by decide) (by decide)
    · show m ≤ m + 1 ∧ m + 1 < m + 12
      omega
  have v1 : vN μ1 (xA (m + 1)) = 0 := by
    rw [hμ1]
    simp only [vN, xA, ty_setI, ty_setR, ty_rowI, ty_rowR, jk_setI, jk_setR, jk_rowI, jk_rowR, jl_setI, jl_setR, jl_rowI, jl_rowR, sz_setI, sz_setR, sz_rowI, sz_rowR, ext_setI, ext_setR, iv_setI, iv_setR, iv_rowI, iv_rowR, rv_setI, rv_setR, rv_rowI, rv_rowR, iv_setIn, iv_rowIn, rv_setRn, rv_rowRn, iv_rowIe, rv_rowRe, Nat.add_zero, and_self, if_true]; rfl
  have G1 : GV μ1 D (m + 1) := by
    have hr' : ∀ a j, m + 1 ≤ a → jrv μ1 a j = jrv μ a j := by
      intro a j ha
      rw [hμ1]
      simp only [ty_setI, ty_setR, ty_rowI, ty_rowR, jk_setI, jk_setR, jk_rowI, jk_rowR, jl_setI, jl_setR, jl_rowI, jl_rowR, sz_setI, sz_setR, sz_rowI, sz_rowR, ext_setI, ext_setR, iv_setI, iv_setR, iv_rowI, iv_rowR, rv_setI, rv_setR, rv_rowI, rv_rowR, iv_setIn, iv_rowIn, rv_setRn, rv_rowRn, iv_rowIe, rv_rowRe, show ¬ a = m by omega, false_and, if_false]
    refine ⟨by omega, ⟨?_, ?_, ?_⟩, ⟨?_, by rw [v1]; omega⟩, ?_⟩
    · rw [F1.kk, F1.ll]; exact hG.1
    · simp only [hr' (m + 1) _ (Nat.le_refl _)]; exact hG.2.1
    · intro j b' hb'
      rw [hr' _ _ (by omega)] at hb'
      rw [F1.kk]; exact hG.2.2 j b' hb'
    · rw [v1, hμ1]
      simp only [ty_setI, ty_setR, ty_rowI, ty_rowR, jk_setI, jk_setR, jk_rowI, jk_rowR, jl_setI, jl_setR, jl_rowI, jl_rowR, sz_setI, sz_setR, sz_rowI, sz_rowR, ext_setI, ext_setR, iv_setI, iv_setR, iv_rowI, iv_rowR, rv_setI, rv_setR, rv_rowI, rv_rowR, iv_setIn, iv_rowIn, rv_setRn, rv_rowRn, iv_rowIe, rv_rowRe, and_self, if_true]
    · intro w hw
      have : rG μ1 (xA (m + 1)) = [] := by unfold rG; rw [v1]; rfl
      rw [this] at hw; cases hw
  have F2 : Fx (fun a => a = m + 1) (fun a _ => a = m) μ μ1 := by
    rw [hμ1]
    refine Fx.setI (Fx.setR (Fx.setR (Fx.setR (Fx.setR Fx.refl ?_) ?_) ?_) ?_) ?_
    · show m = m; rfl
    · show m = m; rfl
    · show m = m; rfl
    · show m = m; rfl
    · show m + 1 = m + 1; rfl
  obtain ⟨cv1, cl1⟩ := hC.out F2 (fun a ha => by omega) (fun a j ha => by omega)
  obtain ⟨b1, b2⟩ := hb.outx F1 (fun a ha => by omega) (fun a j ha => by omega)
  obtain ⟨x1, x2⟩ := hx.outx F1 (fun a ha => by omega) (fun a j ha => by omega)
  obtain ⟨t1, t2⟩ := ht.outx F1 (fun a ha => by omega) (fun a j ha => by omega)
  obtain ⟨q1, q2⟩ := hr.out F1 (fun a ha => by omega) (fun a j ha => by omega)
  have M1 : MX μ1 B D m b x t r gb gx gt R := by
    refine ⟨⟨by rw [F1.kk]; exact h7, ?_⟩, ⟨cv1, G1, b1, x1, t1, q1, hA.out F1 (fun a ha => by omega)⟩, ⟨by rw [b2]; exact egb, by rw [x2]; exact egx, by rw [t2]; exact egt, by rw [q2]; exact eR⟩, hB, hD, zb, zx, zt, zr'⟩
    rw [hμ1]
    simp only [ty_setI, ty_setR, ty_rowI, ty_rowR, jk_setI, jk_setR, jk_rowI, jk_rowR, jl_setI, jl_setR, jl_rowI, jl_rowR, sz_setI, sz_setR, sz_rowI, sz_rowR, ext_setI, ext_setR, iv_setI, iv_setR, iv_rowI, iv_rowR, rv_setI, rv_setR, rv_rowI, rv_rowR, iv_setIn, iv_rowIn, rv_setRn, rv_rowRn, iv_rowIe, rv_rowRe, true_and, Nat.reduceEqDiff, if_true, if_false, r0, r1, show ¬ ((0 : Nat) = 2) by decide, show ¬ ((0 : Nat) = 3) by decide, show ¬ ((0 : Nat) = 4) by decide, show ¬ ((0 : Nat) = 5) by decide, and_self]
  have z1 : dG μ1 (xA (m + 1)) = [] := by
    have : (dG μ1 (xA (m + 1))).length = 0 := by rw [len_dG, v1]
    exact List.eq_nil_of_length_eq_zero this
  exact ⟨F1, M1, z1⟩
theorem mk_rows {W : DG} (hW8 : W.length ≤ 8) : ∀ n k μ5, k + n = 99 → MX μ5 B D m b x t r gb gx gt R → dG μ5 (xA (m + 1)) = pRows R gb gx gt W k → cL μ5 (m + 7) = pCls R gb gx gt W k → ∃ μ', jR (d + 5) 112 52 [.ref m, .ref b, .ref x, .ref t, .ref r, .int (N (k + 1))] [] μ5 = some (some (.int (N 1)), μ') ∧ FK m μ5 μ' ∧ MX μ' B D m b x t r gb gx gt R ∧ dG μ' (xA (m + 1)) = pRows R gb gx gt W 99 ∧ cL μ' (m + 7) = pCls R gb gx gt W 99 := by
  have b99 : (99 : Nat) < 2147483648 := by decide
  intro n
  induction n with
  | zero =>
    intro k μ5 hk hM hG5 hC5
    have hk : k = 99 := hk
    subst hk
    refine ⟨μ5, ?_, Fx.refl, hM, hG5, hC5⟩
    rw [b112_52]
    simp only [aI_eq, aB_eq, aR_eq, sI_eq, sB_eq, sR_eq, Option.bind_some, Option.bind_none, if_true, if_false, true_or, or_true, false_or, or_false, true_and, and_true, false_and, and_false, decide_eq_true_eq, decide_true, decide_false, eq_self, not_true_eq_false, not_false_eq_true, jfit0, N_lit, N_add, N_mul, NEG_eq, pl_none, pl_some, rf_some, rf_none, jun_ref, jun_null, ir_ref, ir_null, jr_rf, jun_rf, Option.toList_some, Option.toList_none, List.nil_append, List.cons_append, N_lt b99 (show 99 + 1 < 2147483648 by decide), show (99 : Nat) < 99 + 1 by decide]
  | succ n ih =>
    intro k μ5 hk hM hG5 hC5
    have bk : k + 1 < 2147483648 := by omega
    have p1 := d_placeOf (d := d + 4) hM.2.1.2.1 (N (k + 1))
    rw [hG5, lfind_keys (keys_pRows k)] at p1
    rw [b112_52]
    simp only [gI7, gR7, pI7, pR7, rv7, gI6, gR6, pI6, pR6, rv6, aI_eq, aB_eq, aR_eq, sI_eq, sB_eq, sR_eq, Option.bind_some, Option.bind_none, if_true, if_false, true_or, or_true, false_or, or_false, true_and, and_true, false_and, and_false, decide_eq_true_eq, decide_true, decide_false, eq_self, not_true_eq_false, not_false_eq_true, jfit0, N_lit, N_add, N_mul, NEG_eq, pl_none, pl_some, rf_some, rf_none, jun_ref, jun_null, ir_ref, ir_null, jr_rf, jun_rf, Option.toList_some, Option.toList_none, List.nil_append, List.cons_append, N_lt b99 bk, show ¬ (99 < k + 1) by omega, hM.1, hM.2.1.2.1.2.1.1, p1]
    rw [b112_68]
    cases e : lfind (N (k + 1)) W with
    | none =>
      simp only [aI_eq, aB_eq, aR_eq, sI_eq, sB_eq, sR_eq, Option.bind_some, Option.bind_none, if_true, if_false, true_or, or_true, false_or, or_false, true_and, and_true, false_and, and_false, decide_eq_true_eq, decide_true, decide_false, eq_self, not_true_eq_false, not_false_eq_true, jfit0, N_lit, N_add, N_mul, NEG_eq, pl_none, pl_some, rf_some, rf_none, jun_ref, jun_null, ir_ref, ir_null, jr_rf, jun_rf, Option.toList_some, Option.toList_none, List.nil_append, List.cons_append, b112_82]
      refine ih (k + 1) μ5 (by omega) hM ?_ ?_
      · rw [hG5]; show _ = (match lfind (N (k + 1)) W with | none => _ | some i => _); rw [e]
      · rw [hC5]; show _ = (match lfind (N (k + 1)) W with | none => _ | some i => _); rw [e]
    | some i =>
      have hi8 : i < 8 := by have := lfind_lt e; omega
      obtain ⟨μ6, l1, l2, M6, l4, l5, l6⟩ := d_lookUp (d := d + 3) hM (N (k + 1))
      have l4' : LK μ6 m (N (k + 1)) (lfind (N (k + 1)) gb) (lfind (N (k + 1)) gx) (lfind (N (k + 1)) gt) (some i) := by
        have e6 : lfind (N (k + 1)) (dG μ5 (xA (m + 1))) = some i := by rw [hG5, lfind_keys (keys_pRows k)]; exact e
        rw [e6] at l4; exact l4
      have cap : (cL μ6 (m + 7)).length ≤ 42 := by
        have w1 := len_pCls (R := R) (gb := gb) (gx := gx) (gt := gt) (W := W) k (by omega)
        have w2 := upTo_more (by omega) e
        have w3 : W.countP (upTo (k + 1)) ≤ W.length := List.countP_le_length
        rw [l6, hC5]; omega
      obtain ⟨μ7, s1, s2, s3, s4⟩ := d_mergeRow (d := d) M6 l4' (by omega) cap
      simp only [gI7, gR7, pI7, pR7, rv7, aI_eq, aB_eq, aR_eq, sI_eq, sB_eq, sR_eq, Option.bind_some, Option.bind_none, if_true, if_false, true_or, or_true, false_or, or_false, true_and, and_true, false_and, and_false, decide_eq_true_eq, decide_true, decide_false, eq_self, not_true_eq_false, not_false_eq_true, jfit0, N_lit, N_add, N_mul, NEG_eq, pl_none, pl_some, rf_some, rf_none, jun_ref, jun_null, ir_ref, ir_null, jr_rf, jun_rf, Option.toList_some, Option.toList_none, List.nil_append, List.cons_append, N_NEG (show i < 2147483648 by omega), hM.1, l1, b112_78, M6.1, s1, b112_82]
      obtain ⟨μ', z1, z2, z3⟩ := ih (k + 1) μ7 (by omega) s2.2.2 (by
          rw [s3, l5, hG5]; show _ = (match lfind (N (k + 1)) W with | none => _ | some i => _); rw [e]) (by
          rw [s4, l6, hC5]; show _ = (match lfind (N (k + 1)) W with | none => _ | some i => _); rw [e])
      exact ⟨μ', z1, (l2.fk.trans s2.1.fk).trans z2, z3⟩
theorem d_make (hv : MV μ D m) (hB : B ≤ m) (hb : GV μ D b) (hx : GV μ D x) (ht : GV μ D t) (hr : RV μ r) (hA : JA μ B) (zb : b + 6 ≤ m ∨ m + 12 ≤ b) (zx : x + 6 ≤ m ∨ m + 12 ≤ x) (zt : t + 6 ≤ m ∨ m + 12 ≤ t) (zr' : r + 3 ≤ m ∨ m + 12 ≤ r) :
    ∃ μ', jC (d + 5) 112 [.ref m, .ref b, .ref x, .ref t, .ref r] μ = some (some (.int (mkR (pMerge (rL μ r) (dG μ (xA b)) (dG μ (xA x)) (dG μ (xA t))))), μ') ∧ FK m μ μ' ∧ MX μ' B D m b x t r (dG μ (xA b)) (dG μ (xA x)) (dG μ (xA t)) (rL μ r) ∧ ∀ M, pMerge (rL μ r) (dG μ (xA b)) (dG μ (xA x)) (dG μ (xA t)) = some M → dG μ' (xA (m + 1)) = M.1 ∧ cL μ' (m + 7) = M.2 := by
  obtain ⟨F1, M1, z1⟩ := mk_start hv hB hb hx ht hr hA zb zx zt zr'
  obtain ⟨hD, h7, r0, r1, hC, hG⟩ := hv
  generalize dG μ (xA b) = gb at *
  generalize dG μ (xA x) = gx at *
  generalize dG μ (xA t) = gt at *
  generalize rL μ r = R at *
  have hμ1 : mkS μ m b x t r = jsetI (jsetR (jsetR (jsetR (jsetR μ m 2 (some b)) m 3 (some x)) m 4 (some t)) m 5 (some r)) (m + 1) 0 (N 0) := rfl
  generalize mkS μ m b x t r = μ1 at *
  obtain ⟨μ2, a1, a2, a3, a4⟩ := d_clear (d := d + 4) M1.2.1.1
  obtain ⟨M2, g2⟩ := M1.stepC a2 a3
  obtain ⟨μ3, c1, c2, M3, c4, c5⟩ := d_placeMine (d := d) M2 (by rw [g2, z1])
  obtain ⟨μ4, e1, e2, M4, e4, e5⟩ := d_placeTheirs (d := d) M3
  rw [c4] at e1 e5
  have F4 : FK m μ μ4 := ((F1.trans a2.fm.fk).trans c2.fk).trans e2.fk
  have cl4 : cL μ4 (m + 7) = [] := by rw [e4, c5, a4]
  have b99 : (99 : Nat) < 2147483648 := by decide
  have run : ∀ r', (jR (d + 5) 112 44 [.ref m, .ref b, .ref x, .ref t, .ref r, .retAddr 0] [.int (thR (thW gb gx gt (gt.map fun w => w.1) (mineW gb gx gt gx) 0))] μ4 = r') → jC (d + 5) 112 [.ref m, .ref b, .ref x, .ref t, .ref r] μ = r' := by
    intro r' hr'
    rw [jC_run (by decide)]
    show jR (d + 5) 112 0 [.ref m, .ref b, .ref x, .ref t, .ref r, .retAddr 0] [] μ = _
    rw [b112_0 (h1 := ir_ref) (h2 := ir_ref) (h3 := ir_ref) (h4 := ir_ref)]
    simp only [gI7, gR7, pI7, pR7, rv7, gI6, gR6, pI6, pR6, rv6, gI4, gR4, pI4, pR4, rv4, aI_eq, aB_eq, aR_eq, sI_eq, sB_eq, sR_eq, Option.bind_some, Option.bind_none, if_true, if_false, true_or, or_true, false_or, or_false, true_and, and_true, false_and, and_false, decide_eq_true_eq, decide_true, decide_false, eq_self, not_true_eq_false, not_false_eq_true, jfit0, N_lit, N_add, N_mul, NEG_eq, pl_none, pl_some, rf_some, rf_none, jun_ref, jun_null, ir_ref, ir_null, jr_rf, jun_rf, Option.toList_some, Option.toList_none, List.nil_append, List.cons_append, ty_setI, ty_setR, ty_rowI, ty_rowR, jk_setI, jk_setR, jk_rowI, jk_rowR, jl_setI, jl_setR, jl_rowI, jl_rowR, sz_setI, sz_setR, sz_rowI, sz_rowR, ext_setI, ext_setR, iv_setI, iv_setR, iv_rowI, iv_rowR, rv_setI, rv_setR, rv_rowI, rv_rowR, iv_setIn, iv_rowIn, rv_setRn, rv_rowRn, iv_rowIe, rv_rowRe, h7, r0, r1, hG.1, true_and, Nat.reduceEqDiff, show ¬ ((0 : Nat) = 2) by decide, show ¬ ((0 : Nat) = 3) by decide, show ¬ ((0 : Nat) = 4) by decide, show ¬ ((0 : Nat) = 5) by decide, show ¬ ((1 : Nat) = 2) by decide, show ¬ ((1 : Nat) = 3) by decide, show ¬ ((1 : Nat) = 4) by decide, show ¬ ((1 : Nat) = 5) by decide, hC.1]
    rw [← hμ1]
    simp only [a1, aI_eq, aB_eq, aR_eq, sI_eq, sB_eq, sR_eq, Option.bind_some, Option.bind_none, if_true, if_false, true_or, or_true, false_or, or_false, true_and, and_true, false_and, and_false, decide_eq_true_eq, decide_true, decide_false, eq_self, not_true_eq_false, not_false_eq_true, jfit0, N_lit, N_add, N_mul, NEG_eq, pl_none, pl_some, rf_some, rf_none, jun_ref, jun_null, ir_ref, ir_null, jr_rf, jun_rf, Option.toList_some, Option.toList_none, List.nil_append, List.cons_append, b112_36, rv7, M2.1, c1, b112_40, M3.1, e1]
    exact hr'
  unfold pMerge
  cases eW : thW gb gx gt (gt.map fun w => w.1) (mineW gb gx gt gx) 0 with
  | none =>
    refine ⟨μ4, run _ ?_, F4, M4, fun M hM => by cases hM⟩
    rw [eW, b112_44]
    simp only [thR, aI_eq, aB_eq, aR_eq, sI_eq, sB_eq, sR_eq, Option.bind_some, Option.bind_none, if_true, if_false, true_or, or_true, false_or, or_false, true_and, and_true, false_and, and_false, decide_eq_true_eq, decide_true, decide_false, eq_self, not_true_eq_false, not_false_eq_true, jfit0, N_lit, N_add, N_mul, NEG_eq, pl_none, pl_some, rf_some, rf_none, jun_ref, jun_null, ir_ref, ir_null, jr_rf, jun_rf, Option.toList_some, Option.toList_none, List.nil_append, List.cons_append]; rfl
  | some W =>
    obtain ⟨μ', s1, s2, s3, s4, s5⟩ := mk_rows (d := d) (W := W) (by rw [← e5 W eW, len_dG]; exact M4.2.1.2.1.2.2.1.2) 99 0 μ4 (by omega) M4 (e5 W eW) cl4
    refine ⟨μ', run _ ?_, F4.trans s2, s3, fun M hM => ?_⟩
    · rw [eW, b112_44]
      simp only [thR, aI_eq, aB_eq, aR_eq, sI_eq, sB_eq, sR_eq, Option.bind_some, Option.bind_none, if_true, if_false, true_or, or_true, false_or, or_false, true_and, and_true, false_and, and_false, decide_eq_true_eq, decide_true, decide_false, eq_self, not_true_eq_false, not_false_eq_true, jfit0, N_lit, N_add, N_mul, NEG_eq, pl_none, pl_some, rf_some, rf_none, jun_ref, jun_null, ir_ref, ir_null, jr_rf, jun_rf, Option.toList_some, Option.toList_none, List.nil_append, List.cons_append, n10]
      exact s1
    · have hM : (pRows R gb gx gt W 99, pCls R gb gx gt W 99) = M := by simpa using hM
      rw [← hM]
      exact ⟨s4, s5⟩
end MAKE
