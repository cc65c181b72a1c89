/-! MERGING: what merge() would make, by keys; the rows' places -/
def zr (k : Int32) : RW (List Tk) := (k, zc [], zc [], zc [])
/-- a key is in what is merged -/
def keepK (gb gx gt : DG) (k : Int32) : Prop := match lfind k gx, lfind k gt with
  | some _, some _ => True
  | none, none => False
  | some i, none => lfind k gb = none ∨ ¬ ∀ c, c < 3 → cO [] gb (lfind k gb) c = cO [] gx (some i) c
  | none, some j => lfind k gb = none ∨ ¬ ∀ c, c < 3 → cO [] gb (lfind k gb) c = cO [] gt (some j) c
noncomputable def keepB (gb gx gt : DG) (k : Int32) : Bool := haveI := Classical.propDecidable (keepK gb gx gt k); decide (keepK gb gx gt k)
theorem keepB_iff {gb gx gt : DG} {k : Int32} : keepB gb gx gt k = true ↔ keepK gb gx gt k := @decide_eq_true_iff _ (Classical.propDecidable _)
/-- the rows of the one's own -/
noncomputable def mineW (gb gx gt : DG) (l : DG) : DG := ((l.map fun w => w.1).filter (keepB gb gx gt)).map zr
def nextB (W : DG) (k : Int32) (b : Nat) : Nat := match lfind k W with
  | none => b
  | some p => p + 1
/-- and of the other's -/
noncomputable def thW (gb gx gt : DG) : List Int32 → DG → Nat → Option DG
  | [], W, _ => some W
  | k :: ks, W, b => if (lfind k gx).isNone && keepB gb gx gt k then (if W.length < 8 then thW gb gx gt ks (W.insertIdx b (zr k)) (nextB (W.insertIdx b (zr k)) k b) else none) else thW gb gx gt ks W (nextB W k b)
def MX (μ : jM) (B D m b x t r : Nat) (gb gx gt : DG) (R : Nat → Nat × Nat) : Prop :=
  (jk μ m = 7 ∧ jrv μ m 0 = some (m + 1) ∧ jrv μ m 1 = some (m + 7) ∧ jrv μ m 2 = some b ∧ jrv μ m 3 = some x ∧ jrv μ m 4 = some t ∧ jrv μ m 5 = some r) ∧
  (CV μ (m + 7) ∧ GV μ D (m + 1) ∧ GV μ D b ∧ GV μ D x ∧ GV μ D t ∧ RV μ r ∧ JA μ B) ∧
  (dG μ (xA b) = gb ∧ dG μ (xA x) = gx ∧ dG μ (xA t) = gt ∧ rL μ r = R) ∧
  B ≤ m ∧ m + 12 ≤ D ∧ (b + 6 ≤ m ∨ m + 12 ≤ b) ∧ (x + 6 ≤ m ∨ m + 12 ≤ x) ∧ (t + 6 ≤ m ∨ m + 12 ≤ t) ∧ (r + 3 ≤ m ∨ m + 12 ≤ r)
def LK (μ : jM) (m : Nat) (k : Int32) (ob ox ot om : Option Nat) : Prop := jiv μ m 6 = k ∧ jiv μ m 7 = pl ob ∧ jiv μ m 8 = pl ox ∧ jiv μ m 9 = pl ot ∧ jiv μ m 10 = pl om
def FM (m : Nat) (μ μ' : jM) : Prop := Fx (fun a => m ≤ a ∧ a < m + 12) (fun a _ => a = m + 5) μ μ'
section MERGE
variable {μ μ' μ'' : jM} {B D m b x t r d : Nat} {gb gx gt : DG} {R : Nat → Nat × Nat} {k : Int32} {ob ox ot om : Option Nat}
theorem FM.refl : FM m μ μ := Fx.refl
theorem FM.trans (a : FM m μ μ') (b : FM m μ' μ'') : FM m μ μ'' := Fx.trans a b
theorem FG.fm (F : FG (m + 1) μ μ') : FM m μ μ' := Fx.mono F (fun a h => ⟨by omega, by omega⟩) (fun a j h => by omega)
theorem FC.fm (F : FC (m + 7) μ μ') : FM m μ μ' := Fx.mono F (fun a h => ⟨by omega, by omega⟩) (fun a j h => h.elim)
theorem MX.step (h : MX μ B D m b x t r gb gx gt R) (F : FM m μ μ') (hG : GV μ' D (m + 1)) (hC : CV μ' (m + 7)) : MX μ' B D m b x t r gb gx gt R := by
  obtain ⟨⟨h0, h1⟩, ⟨c1, c2, c3, c4, c5, c6, c7⟩, ⟨e1, e2, e3, e4⟩, z1, z2, z3, z4, z5, z6⟩ := h
  have hr : ∀ j, jrv μ' m j = jrv μ m j := fun j => F.rv (by omega)
  obtain ⟨g1, g2⟩ := c3.outx F (fun a ha => by omega) (fun a j ha => by omega)
  obtain ⟨g3, g4⟩ := c4.outx F (fun a ha => by omega) (fun a j ha => by omega)
  obtain ⟨g5, g6⟩ := c5.outx F (fun a ha => by omega) (fun a j ha => by omega)
  obtain ⟨g7, g8⟩ := c6.out F (fun a ha => by omega) (fun a j ha => by omega)
  exact ⟨⟨by rw [F.kk]; exact h0, by simp only [hr]; exact h1⟩, ⟨hC, hG, g1, g3, g5, g7, c7.out F (fun a ha => by omega)⟩, ⟨by rw [g2]; exact e1, by rw [g4]; exact e2, by rw [g6]; exact e3, by rw [g8]; exact e4⟩, z1, z2, z3, z4, z5, z6⟩
theorem MX.stepG (h : MX μ B D m b x t r gb gx gt R) (F : FG (m + 1) μ μ') (hG : GV μ' D (m + 1)) : MX μ' B D m b x t r gb gx gt R ∧ cL μ' (m + 7) = cL μ (m + 7) :=
  ⟨h.step F.fm hG (h.2.1.1.out F (fun a ha => by omega) (fun a j ha => by omega)).1, (h.2.1.1.out F (fun a ha => by omega) (fun a j ha => by omega)).2⟩
theorem MX.stepC (h : MX μ B D m b x t r gb gx gt R) (F : FC (m + 7) μ μ') (hC : CV μ' (m + 7)) : MX μ' B D m b x t r gb gx gt R ∧ dG μ' (xA (m + 1)) = dG μ (xA (m + 1)) := by
  have hz := h.2.2.2.2.1
  obtain ⟨g1, g2⟩ := h.2.1.2.1.outx F (fun a ha => by omega) (fun a j ha => ha.elim)
  exact ⟨h.step F.fm g1 hC, g2⟩
theorem MX.stepM (h : MX μ B D m b x t r gb gx gt R) (s : Nat) (v : Int32) : MX (jsetI μ m s v) B D m b x t r gb gx gt R ∧ dG (jsetI μ m s v) (xA (m + 1)) = dG μ (xA (m + 1)) ∧ cL (jsetI μ m s v) (m + 7) = cL μ (m + 7) ∧ FM m μ (jsetI μ m s v) := by
  have hz := h.2.2.2.2.1
  have F : Fx (fun a => a = m) (fun _ _ => False) μ (jsetI μ m s v) := Fx.refl.setI rfl
  have F' : FM m μ (jsetI μ m s v) := Fx.mono F (fun a h => ⟨by omega, by omega⟩) (fun a j h => h.elim)
  obtain ⟨g1, g2⟩ := h.2.1.2.1.outx F (fun a ha => by omega) (fun a j ha => ha.elim)
  obtain ⟨g3, g4⟩ := h.2.1.1.out F (fun a ha => by omega) (fun a j ha => ha.elim)
  exact ⟨h.step F' g1 g3, g2, g4, F'⟩
theorem LK.keep (h : LK μ m k ob ox ot om) (e : jiv μ' m = jiv μ m) : LK μ' m k ob ox ot om := by unfold LK; rw [e]; exact h
theorem d_lookUp (h : MX μ B D m b x t r gb gx gt R) (k : Int32) : ∃ μ', jC (d + 1) 114 [.ref m, .int k] μ = some (none, μ') ∧ FM m μ μ' ∧ MX μ' B D m b x t r gb gx gt R ∧ LK μ' m k (lfind k gb) (lfind k gx) (lfind k gt) (lfind k (dG μ (xA (m + 1)))) ∧ dG μ' (xA (m + 1)) = dG μ (xA (m + 1)) ∧ cL μ' (m + 7) = cL μ (m + 7) := by
  obtain ⟨a1, a2, a3, a4⟩ := h.stepM 6 k
  obtain ⟨b1, b2, b3, b4⟩ := a1.stepM 7 (pl (lfind k gb))
  obtain ⟨c1, c2, c3, c4⟩ := b1.stepM 8 (pl (lfind k gx))
  obtain ⟨d1, d2, d3, d4⟩ := c1.stepM 9 (pl (lfind k gt))
  obtain ⟨e1, e2, e3, e4⟩ := d1.stepM 10 (pl (lfind k (dG μ (xA (m + 1)))))
  have p1 := d_placeOf (d := d) a1.2.1.2.2.1 k
  have p2 := d_placeOf (d := d) b1.2.1.2.2.2.1 k
  have p3 := d_placeOf (d := d) c1.2.1.2.2.2.2.1 k
  have p4 := d_placeOf (d := d) d1.2.1.2.1 k
  rw [a1.2.2.1.1] at p1
  rw [b1.2.2.1.2.1] at p2
  rw [c1.2.2.1.2.2.1] at p3
  rw [d2, c2, b2, a2] at p4
  refine ⟨_, ?_, (((a4.trans b4).trans c4).trans d4).trans e4, e1, ?_, by rw [e2, d2, c2, b2, a2], by rw [e3, d3, c3, b3, a3]⟩
  · rw [jC_run (by decide)]
    show jR (d + 1) 114 0 [.ref m, .int k] [] μ = _
    obtain ⟨⟨k0, r0, r1, r2, r3, r4, r5⟩, ⟨-, q2, q3, q4, q5, -⟩, -⟩ := h
    simp only [b114_0, b114_14, b114_26, b114_38, b114_50, gI7, gR7, pI7, pR7, rv7, gI6, gR6, pI6, pR6, rv6, aI_eq, aB_eq, aR_eq, sI_eq, sB_eq, sR_eq, Option.bind_some, Option.bind_none, if_true, if_false, true_or, or_true, false_or, or_false, true_and, and_true, false_and, and_false, decide_eq_true_eq, decide_true, decide_false, eq_self, not_true_eq_false, not_false_eq_true, jfit0, N_lit, N_add, N_mul, NEG_eq, pl_none, pl_some, rf_some, rf_none, jun_ref, jun_null, ir_ref, ir_null, jr_rf, jun_rf, Option.toList_some, Option.toList_none, List.nil_append, List.cons_append, ty_setI, ty_setR, ty_rowI, ty_rowR, jk_setI, jk_setR, jk_rowI, jk_rowR, jl_setI, jl_setR, jl_rowI, jl_rowR, sz_setI, sz_setR, sz_rowI, sz_rowR, ext_setI, ext_setR, iv_setI, iv_setR, iv_rowI, iv_rowR, rv_setI, rv_setR, rv_rowI, rv_rowR, iv_setIn, iv_rowIn, rv_setRn, rv_rowRn, iv_rowIe, rv_rowRe, k0, r0, r1, r2, r3, r4, r5, q2.2.1.1.1, q3.2.1.1.1, q4.2.1.1.1, q5.2.1.1.1, p1, p2, p3, p4]
  · unfold LK
    simp only [ty_setI, ty_setR, ty_rowI, ty_rowR, jk_setI, jk_setR, jk_rowI, jk_rowR, jl_setI, jl_setR, jl_rowI, jl_rowR, sz_setI, sz_setR, sz_rowI, sz_rowR, ext_setI, ext_setR, iv_setI, iv_setR, iv_rowI, iv_rowR, rv_setI, rv_setR, rv_rowI, rv_rowR, iv_setIn, iv_rowIn, rv_setRn, rv_rowRn, iv_rowIe, rv_rowRe, true_and, Nat.reduceEqDiff, if_true, if_false, and_self]
theorem keyO_lt {φ : Type} {l : List (RW φ)} {i : Nat} (hi : i < l.length) : keyO l i = l[i].1 := by
  unfold keyO
  rw [List.getElem?_eq_getElem hi]; rfl
theorem lfind_mem {φ : Type} {l : List (RW φ)} {i : Nat} (hi : i < l.length) : ∃ j, lfind (keyO l i) l = some j := by
  cases e : lfind (keyO l i) l with
  | some j => exact ⟨j, rfl⟩
  | none =>
    unfold lfind at e
    rw [List.findIdx?_eq_none_iff] at e
    have := e _ (List.getElem_mem hi)
    rw [keyO_lt hi] at this
    simp at this
theorem small_of (hg : GV μ D x) {o : Option Nat} (ho : o = lfind k (dG μ (xA x))) : ∀ i, o = some i → i < 1000 := by
  intro i hi
  rw [ho] at hi
  have := lfind_small hg hi
  omega
theorem pl_ne {o : Option Nat} (h : ∀ i, o = some i → i < 1000) : (pl o = NEG) = (o = none) := by
  cases o with
  | none => exact propext ⟨fun _ => rfl, fun _ => rfl⟩
  | some i =>
    have := h i rfl
    rw [pl_some, N_NEG (by omega)]
    exact propext ⟨fun e => e.elim, fun e => by cases e⟩
theorem mineW_succ {i : Nat} (hi : i < gx.length) : mineW gb gx gt (gx.take (i + 1)) = if keepB gb gx gt (keyO gx i) = true then mineW gb gx gt (gx.take i) ++ [zr (keyO gx i)] else mineW gb gx gt (gx.take i) := by
  unfold mineW
  rw [List.take_succ, List.getElem?_eq_getElem hi, keyO_lt hi]
  simp only [Option.toList_some, List.map_append, List.map_cons, List.map_nil, List.filter_append]
  by_cases e : keepB gb gx gt gx[i].1 = true
  · simp [e]
  · simp [e]
theorem mineW_len {l : DG} : (mineW gb gx gt l).length ≤ l.length := by
  unfold mineW
  rw [List.length_map]
  exact Nat.le_trans (List.length_filter_le _ _) (by rw [List.length_map]; exact Nat.le_refl _)
theorem d_placeMine (h : MX μ B D m b x t r gb gx gt R) (h0 : dG μ (xA (m + 1)) = []) : ∃ μ', jC (d + 4) 113 [.ref m] μ = some (none, μ') ∧ FM m μ μ' ∧ MX μ' B D m b x t r gb gx gt R ∧ dG μ' (xA (m + 1)) = mineW gb gx gt gx ∧ cL μ' (m + 7) = cL μ (m + 7) := by
  have hlen : gx.length ≤ 8 := by
    have := h.2.1.2.2.2.1.2.2.1.2
    rw [← h.2.2.1.2.1, len_dG]; exact this
  have loop : ∀ n i μ1, i + n = gx.length → FM m μ μ1 → MX μ1 B D m b x t r gb gx gt R → dG μ1 (xA (m + 1)) = mineW gb gx gt (gx.take i) → cL μ1 (m + 7) = cL μ (m + 7) → ∃ μ', jR (d + 4) 113 2 [.ref m, .int (N i)] [] μ1 = some (none, μ') ∧ FM m μ μ' ∧ MX μ' B D m b x t r gb gx gt R ∧ dG μ' (xA (m + 1)) = mineW gb gx gt gx ∧ cL μ' (m + 7) = cL μ (m + 7) := by
    intro n
    induction n with
    | zero =>
      intro i μ1 hi hF hM hG hC
      have hi : i = gx.length := hi
      have hv : vN μ1 (xA x) = gx.length := by rw [← hM.2.2.1.2.1, len_dG]
      refine ⟨μ1, ?_, hF, hM, by rw [hG, hi, List.take_length], hC⟩
      rw [b113_2]
      simp only [gI7, gR7, pI7, pR7, rv7, gI6, gR6, pI6, pR6, rv6, aI_eq, aB_eq, aR_eq, sI_eq, sB_eq, sR_eq, Option.bind_some, Option.bind_none, if_true, if_false, true_or, or_true, false_or, or_false, true_and, and_true, false_and, and_false, decide_eq_true_eq, decide_true, decide_false, eq_self, not_true_eq_false, not_false_eq_true, jfit0, N_lit, N_add, N_mul, NEG_eq, pl_none, pl_some, rf_some, rf_none, jun_ref, jun_null, ir_ref, ir_null, jr_rf, jun_rf, Option.toList_some, Option.toList_none, List.nil_append, List.cons_append, hM.1, hM.2.1.2.2.2.1.2.1.1, hM.2.1.2.2.2.1.2.2.1.1, hv, hi, N_lt (show gx.length < 2147483648 by omega) (show gx.length < 2147483648 by omega), Nat.lt_irrefl]
    | succ n ih =>
      intro i μ1 hi hF hM hG hC
      have hi2 : i < gx.length := by omega
      have bi : i < 2147483648 := by omega
      have hv : vN μ1 (xA x) = gx.length := by rw [← hM.2.2.1.2.1, len_dG]
      have t1 := d_keyAt (d := d + 3) hM.2.1.2.2.2.1 bi
      rw [hM.2.2.1.2.1] at t1
      obtain ⟨μ2, l1, l2, l3, l4, l5, l6⟩ := d_lookUp (d := d + 2) hM (keyO gx i)
      obtain ⟨j, hj⟩ := lfind_mem (l := gx) hi2
      generalize hk : keyO gx i = k at *
      have sb := small_of (k := k) hM.2.1.2.2.1 rfl
      have sx := small_of (k := k) hM.2.1.2.2.2.1 rfl
      have st := small_of (k := k) hM.2.1.2.2.2.2.1 rfl
      rw [hM.2.2.1.1] at sb
      rw [hM.2.2.1.2.1] at sx
      rw [hM.2.2.1.2.2.1] at st
      -- behind the two ways
      have skip : keepB gb gx gt k = false → ∃ μ', jR (d + 4) 113 81 [.ref m, .int (N i)] [] μ2 = some (none, μ') ∧ FM m μ μ' ∧ MX μ' B D m b x t r gb gx gt R ∧ dG μ' (xA (m + 1)) = mineW gb gx gt gx ∧ cL μ' (m + 7) = cL μ (m + 7) := by
        intro hkeep
        rw [b113_81]
        simp only [aI_eq, aB_eq, aR_eq, sI_eq, sB_eq, sR_eq, Option.bind_some, Option.bind_none, if_true, if_false, true_or, or_true, false_or, or_false, true_and, and_true, false_and, and_false, decide_eq_true_eq, decide_true, decide_false, eq_self, not_true_eq_false, not_false_eq_true, jfit0, N_lit, N_add, N_mul, NEG_eq, pl_none, pl_some, rf_some, rf_none, jun_ref, jun_null, ir_ref, ir_null, jr_rf, jun_rf, Option.toList_some, Option.toList_none, List.nil_append, List.cons_append]
        refine ih (i + 1) μ2 (by omega) (hF.trans l2) l3 ?_ (by rw [l6, hC])
        rw [l5, hG, mineW_succ hi2, hk, hkeep]; rfl
      have lay : keepB gb gx gt k = true → ∃ μ', jR (d + 4) 113 63 [.ref m, .int (N i)] [] μ2 = some (none, μ') ∧ FM m μ μ' ∧ MX μ' B D m b x t r gb gx gt R ∧ dG μ' (xA (m + 1)) = mineW gb gx gt gx ∧ cL μ' (m + 7) = cL μ (m + 7) := by
        intro hkeep
        have hW : (dG μ2 (xA (m + 1))).length ≤ i := by
          rw [l5, hG]
          exact Nat.le_trans mineW_len (List.length_take_le _ _)
        have hv2 : vN μ2 (xA (m + 1)) = (dG μ2 (xA (m + 1))).length := len_dG.symm
        obtain ⟨μ3, q1, q2, q3, q4⟩ := d_insertRow (d := d) (t := (dG μ2 (xA (m + 1))).length) (k := k) l3.2.1.2.1 (by omega) (Nat.le_refl _)
        obtain ⟨g1, g2⟩ := l3.stepG q2 q3
        obtain ⟨μ', s1, s2⟩ := ih (i + 1) μ3 (by omega) ((hF.trans l2).trans q2.fm) g1 (by
          rw [q4, l5, hG, mineW_succ hi2, hk, hkeep, if_pos rfl, ins_len]; rfl) (by rw [g2, l6, hC])
        refine ⟨μ', ?_, s2⟩
        rw [b113_63]
        simp only [gI7, gR7, pI7, pR7, rv7, gI6, gR6, pI6, pR6, rv6, aI_eq, aB_eq, aR_eq, sI_eq, sB_eq, sR_eq, Option.bind_some, Option.bind_none, if_true, if_false, true_or, or_true, false_or, or_false, true_and, and_true, false_and, and_false, decide_eq_true_eq, decide_true, decide_false, eq_self, not_true_eq_false, not_false_eq_true, jfit0, N_lit, N_add, N_mul, NEG_eq, pl_none, pl_some, rf_some, rf_none, jun_ref, jun_null, ir_ref, ir_null, jr_rf, jun_rf, Option.toList_some, Option.toList_none, List.nil_append, List.cons_append, l3.1, l3.2.1.2.1.2.1.1, l3.2.1.2.1.2.2.1.1, hv2, l4.1, q1, b113_81]
        exact s1
      rw [b113_2]
      simp only [gI7, gR7, pI7, pR7, rv7, gI6, gR6, pI6, pR6, rv6, aI_eq, aB_eq, aR_eq, sI_eq, sB_eq, sR_eq, Option.bind_some, Option.bind_none, if_true, if_false, true_or, or_true, false_or, or_false, true_and, and_true, false_and, and_false, decide_eq_true_eq, decide_true, decide_false, eq_self, not_true_eq_false, not_false_eq_true, jfit0, N_lit, N_add, N_mul, NEG_eq, pl_none, pl_some, rf_some, rf_none, jun_ref, jun_null, ir_ref, ir_null, jr_rf, jun_rf, Option.toList_some, Option.toList_none, List.nil_append, List.cons_append, hM.1, hM.2.1.2.2.2.1.2.1.1, hM.2.1.2.2.2.1.2.2.1.1, hv, N_lt bi (show gx.length < 2147483648 by omega), hi2, t1, b113_22, l1]
      rw [b113_25]
      have t2 := d_isRowAlike (d := d) l3.2.1.2.2.1 l3.2.1.2.2.2.1 sb sx
      rw [l3.2.2.1.1, l3.2.2.1.2.1] at t2
      simp only [gI7, gR7, pI7, pR7, rv7, gI6, gR6, pI6, pR6, rv6, aI_eq, aB_eq, aR_eq, sI_eq, sB_eq, sR_eq, Option.bind_some, Option.bind_none, if_true, if_false, true_or, or_true, false_or, or_false, true_and, and_true, false_and, and_false, decide_eq_true_eq, decide_true, decide_false, eq_self, not_true_eq_false, not_false_eq_true, jfit0, N_lit, N_add, N_mul, NEG_eq, pl_none, pl_some, rf_some, rf_none, jun_ref, jun_null, ir_ref, ir_null, jr_rf, jun_rf, Option.toList_some, Option.toList_none, List.nil_append, List.cons_append, l3.1, l4.1, l4.2.1, l4.2.2.1, l4.2.2.2.1, pl_ne sb, pl_ne st, l3.2.1.2.2.1.2.1.1, t2, b113_60]
      have key : keepK gb gx gt k ↔ ((lfind k gt).isSome ∨ lfind k gb = none ∨ ¬ ∀ c, c < 3 → cO [] gb (lfind k gb) c = cO [] gx (lfind k gx) c) := by
        unfold keepK
        rw [hj]
        cases lfind k gt with
        | none => simp
        | some j' => simp
      by_cases e1 : lfind k gt = none
      · rw [if_pos e1]
        by_cases e2 : lfind k gb = none
        · rw [if_pos e2]
          exact lay (keepB_iff.mpr (key.mpr (Or.inr (Or.inl e2))))
        · rw [if_neg e2]
          by_cases e3 : ∀ c, c < 3 → cO [] gb (lfind k gb) c = cO [] gx (lfind k gx) c
          · simp only [pN_pos e3, n10, if_false]
            refine skip (Bool.eq_false_iff.mpr (fun g => ?_))
            rcases key.mp (keepB_iff.mp g) with g | g | g
            · rw [e1] at g; cases g
            · exact e2 g
            · exact g e3
          · simp only [pN_neg e3, if_true]
            exact lay (keepB_iff.mpr (key.mpr (Or.inr (Or.inr e3))))
      · rw [if_neg e1]
        exact lay (keepB_iff.mpr (key.mpr (Or.inl (by cases e : lfind k gt with | none => exact absurd e e1 | some j' => rfl))))
  obtain ⟨μ', s1, s2⟩ := loop gx.length 0 μ (by omega) FM.refl h (by rw [h0]; rfl) rfl
  refine ⟨μ', ?_, s2⟩
  rw [jC_run (by decide)]
  show jR (d + 4) 113 0 [.ref m, .retAddr 0] [] μ = _
  rw [b113_0]
  exact s1
end MERGE
