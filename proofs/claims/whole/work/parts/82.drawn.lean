/-! THE CLASS's CALLS: drawn, and how often without a clash -/
theorem zb_lt {z : Int32} {n : Nat} (h : 0 < n) : zb z n < n := Nat.mod_lt _ h
theorem N_divL {a b : Nat} (ha : a < 2147483648) (hb : 0 < b) (hb2 : b < 2147483648) : N a / N b = N (a / b) := by
  have h1 : a / b ≤ a := Nat.div_le_self _ _
  refine Int32.toInt_inj.mp ?_
  rw [Int32.toInt_div_of_ne_right, N_toInt ha, N_toInt hb2, N_toInt (by omega)]
  · rw [Int.tdiv_eq_ediv_of_nonneg (by omega)]; rfl
  · intro e
    have := congrArg Int32.toInt e
    rw [N_toInt hb2] at this
    have h2 : (-1 : Int32).toInt = -1 := by decide
    omega
theorem N_modL {a b : Nat} (ha : a < 2147483648) (hb : 0 < b) (hb2 : b < 2147483648) : N a - N a / N b * N b = N (a % b) := by
  have h1 : a / b * b ≤ a := Nat.div_mul_le_self a b
  rw [N_divL ha hb hb2, N_mul, N_sub h1]
  congr 1
  have := Nat.div_add_mod a b
  rw [Nat.mul_comm] at this
  omega
theorem z_shift (z : Int32) : (Int32.toUInt32 z >>> (Int32.toUInt32 (N 9) &&& Int32.toUInt32 (N 31))).toInt32 = N (z.toUInt32 >>> 9).toNat ∧ (z.toUInt32 >>> 9).toNat < 8388608 := by
  have e : Int32.toUInt32 (N 9) &&& Int32.toUInt32 (N 31) = 9 := by decide
  rw [e]
  have h : (z.toUInt32 >>> 9).toNat < 8388608 := by
    have h1 := z.toUInt32.toNat_lt
    rw [UInt32.toNat_shiftRight, show (9 : UInt32).toNat % 32 = 9 by decide, Nat.shiftRight_eq_div_pow, show (2 : Nat) ^ 9 = 512 by decide]
    have h2 : z.toUInt32.toNat < 4294967296 := h1
    omega
  refine ⟨?_, h⟩
  generalize z.toUInt32 >>> 9 = y at *
  refine Int32.toInt_inj.mp ?_
  rw [N_toInt (by omega)]
  show y.toBitVec.toInt = _
  rw [BitVec.toInt_eq_toNat_of_lt (by show 2 * y.toNat < 2 ^ 32; omega)]
  rfl
section TOP
variable {μ μ' μ'' : jM} {n w m v lo hi a b r q s D d X i k p c : Nat} {σ σ' : SG} {x y z u g : Int32} {bs : List Nat} {gm gt : DG}
theorem x_draw13 {v : Int32} (hb : BI μ X) (h : XR μ X σ) : XT μ X (jsetI μ X 13 v) σ 0 0 := by
  have F : Fx (fun a => a = X) (fun _ _ => False) μ (jsetI μ X 13 v) := by
    refine Fx.setI Fx.refl ?_
    exact (rfl : X = X)
  refine XR.one (k := 0) hb h (by decide) (Fx.fa F hb.1) (fun a g => ?_) (fun a j g => g.elim) ?_ (fun i hi hne h => h)
  · have g : a = X := g
    show X + 0 ≤ a ∧ a < X + 1; omega
  · obtain ⟨g1, g2, g3⟩ := h 0 (by decide)
    exact ⟨g1, by refine Eq.trans ?_ g2; simp [iv_setI], by refine Eq.trans ?_ g3; simp [iv_setI]⟩
theorem x_drawBelow (hk : jk μ X = 12) (hz : jiv μ X 13 = z) (hn : 0 < n) (hn2 : n < 1000) : jC d 43 [.ref X, .int (N n)] μ = some (some (.int (N (zb (zn z) n))), jsetI μ X 13 (zn z)) := by
  rw [jC_run (by decide)]
  show jR d 43 0 [.ref X, .int (N n)] [] μ = _
  obtain ⟨s1, s2⟩ := z_shift (zn z)
  have n0 : ¬ N n = N 0 := by rw [N_inj (by omega) (by decide)]; omega
  have hv : jiv (jsetI μ X 13 (z * N 1103515245 + N 12345)) X 13 = zn z := by simp [iv_setI]; rfl
  rw [b43_0]
  simp only [gI12, gR12, pI12, pR12, rv12, aI_eq, aB_eq, aR_eq, sI_eq, sB_eq, sR_eq, Option.bind_some, Option.bind_none, if_true, if_false, true_or, or_true, false_or, or_false, true_and, and_true, false_and, and_false, decide_eq_true_eq, decide_true, decide_false, eq_self, not_true_eq_false, not_false_eq_true, jfit0, N_lit, N_add, N_mul, NEG_eq, pl_none, pl_some, rf_some, rf_none, jun_ref, jun_null, ir_ref, ir_null, jr_rf, jun_rf, Option.toList_some, Option.toList_none, List.nil_append, List.cons_append, hk, hz, N_lt (show 0 < 2147483648 by decide) (show n < 2147483648 by omega), hn, jk_setI, hv, n0, s1, N_modL (show ((zn z).toUInt32 >>> 9).toNat < 2147483648 by omega) hn (show n < 2147483648 by omega), b43_33]
  rfl
/-- the drawn grids -/
def DR (μ : jM) (X : Nat) (s : Int32 × DG × DG) : Prop := jiv μ X 13 = s.1 ∧ (GV μ (X + 766) (X + 318) ∧ dG μ (xA (X + 318)) = s.2.1) ∧ GV μ (X + 766) (X + 324) ∧ dG μ (xA (X + 324)) = s.2.2
theorem DR.dz {v : Int32} {s : Int32 × DG × DG} (h : DR μ X s) : DR (jsetI μ X 13 v) X (v, s.2) := by
  have F : Fx (fun a => a = X) (fun _ _ => False) μ (jsetI μ X 13 v) := by
    refine Fx.setI Fx.refl ?_
    exact (rfl : X = X)
  obtain ⟨a1, ⟨a2, a3⟩, a4, a5⟩ := h
  obtain ⟨b1, b2⟩ := a2.outx F (fun a g => by have g : a = X := g; omega) (fun _ _ g => g.elim)
  obtain ⟨c1, c2⟩ := a4.outx F (fun a g => by have g : a = X := g; omega) (fun _ _ g => g.elim)
  exact ⟨by simp [iv_setI], ⟨b1, b2.trans a3⟩, c1, c2.trans a5⟩
/-- one of the two drawn upon -/
theorem x_drawCell {G : DG} (hb : BI μ X) (h : XR μ X σ) (hk : (k = X + 318 ∧ i = 8) ∨ (k = X + 324 ∧ i = 9)) (hz : jiv μ X 13 = z) (hg : GV μ (X + 766) k) (hG : dG μ (xA k) = G) : ∃ μ', jC (d + 3) 44 [.ref X, .ref k] μ = some (none, μ') ∧ XT μ X μ' σ 0 0 ∧ jiv μ' X 13 = (if G.length = 0 then z else zn (zn (zn z))) ∧ GV μ' (X + 766) k ∧ dG μ' (xA k) = (if G.length = 0 then G else dset G (zn z)) ∧ Fx (fun a => a = X ∨ (k ≤ a ∧ a < k + 6)) (fun a _ => a = k + 4) μ μ' := by
  have hl8 : G.length ≤ 8 := by rw [← hG, len_dG]; exact hg.2.2.1.2
  have k6 : jk μ k = 6 := hg.2.1.1.1
  have n0 : jiv μ k 0 = N G.length := by rw [← hG, len_dG]; exact hg.2.2.1.1
  have k12 := h.s0.1
  rw [jC_run (by decide)]
  show ∃ μ', jR (d + 3) 44 0 [.ref X, .ref k, .retAddr 0, .retAddr 0] [] μ = _ ∧ _
  rw [b44_0 (h1 := ir_ref)]
  simp only [gI6, gR6, pI6, pR6, rv6, gI12, gR12, pI12, pR12, rv12, aI_eq, aB_eq, aR_eq, sI_eq, sB_eq, sR_eq, Option.bind_some, Option.bind_none, if_true, if_false, true_or, or_true, false_or, or_false, true_and, and_true, false_and, and_false, decide_eq_true_eq, decide_true, decide_false, eq_self, not_true_eq_false, not_false_eq_true, jfit0, N_lit, N_add, N_mul, NEG_eq, pl_none, pl_some, rf_some, rf_none, jun_ref, jun_null, ir_ref, ir_null, jr_rf, jun_rf, Option.toList_some, Option.toList_none, List.nil_append, List.cons_append, k6, n0, N_lt (show G.length < 2147483648 by omega) (show 1 < 2147483648 by decide), k12]
  by_cases e0 : G.length = 0
  · rw [if_pos (by omega)]
    simp only [if_pos e0]
    exact ⟨μ, rfl, XT.refl hb h, hz, hg, hG, Fx.refl⟩
  · rw [if_neg (by omega)]
    simp only [if_neg e0]
    have FX : ∀ (μ0 : jM) (v : Int32), Fx (fun a => a = X ∨ (k ≤ a ∧ a < k + 6)) (fun a _ => a = k + 4) μ0 (jsetI μ0 X 13 v) := fun μ0 v => by
      refine Fx.setI Fx.refl ?_
      exact Or.inl rfl
    have st : ∀ (μ0 : jM) (v : Int32), GV μ0 (X + 766) k → dG μ0 (xA k) = G → GV (jsetI μ0 X 13 v) (X + 766) k ∧ dG (jsetI μ0 X 13 v) (xA k) = G := fun μ0 v h0 e0 => by
      have F : Fx (fun a => a = X) (fun _ _ => False) μ0 (jsetI μ0 X 13 v) := by
        refine Fx.setI Fx.refl ?_
        exact (rfl : X = X)
      obtain ⟨b1, b2⟩ := h0.outx F (fun a g => by have g : a = X := g; omega) (fun _ _ g => g.elim)
      exact ⟨b1, b2.trans e0⟩
    have iv13 : ∀ (μ0 : jM) (v : Int32), jiv (jsetI μ0 X 13 v) X 13 = v := fun μ0 v => by simp [iv_setI]
    have c1 := x_drawBelow (d := d + 2) k12 hz (show 0 < G.length by omega) (show G.length < 1000 by omega)
    have T1 := x_draw13 (v := zn z) hb h
    obtain ⟨g1, e1⟩ := st μ (zn z) hg hG
    have i1 := iv13 μ (zn z)
    have F1 := FX μ (zn z)
    generalize jsetI μ X 13 (zn z) = μ1 at *
    have c2 := x_drawBelow (d := d + 2) (n := 3) T1.2.2.s0.1 i1 (by decide) (by decide)
    have T2 := x_draw13 (v := zn (zn z)) T1.2.1 T1.2.2
    obtain ⟨g2, e2⟩ := st μ1 (zn (zn z)) g1 e1
    have i2 := iv13 μ1 (zn (zn z))
    have F2 := FX μ1 (zn (zn z))
    generalize jsetI μ1 X 13 (zn (zn z)) = μ2 at *
    have c3 := x_drawBelow (d := d + 2) (n := 10) T2.2.2.s0.1 i2 (by decide) (by decide)
    have T3 := x_draw13 (v := zn (zn (zn z))) T2.2.1 T2.2.2
    obtain ⟨g3, e3⟩ := st μ2 (zn (zn (zn z))) g2 e2
    have i3 := iv13 μ2 (zn (zn (zn z)))
    have F3 := FX μ2 (zn (zn (zn z)))
    generalize jsetI μ2 X 13 (zn (zn (zn z))) = μ3 at *
    have z1 := zb_lt (z := zn z) (show 0 < G.length by omega)
    have z2 := zb_lt (z := zn (zn z)) (show 0 < 3 by decide)
    obtain ⟨μ4, c4, F4, g4, e4⟩ := d_setContent (d := d + 1) (p := some (zb (zn z) G.length)) (c := zb (zn (zn z)) 3) (k := N 1) (n := N (zb (zn (zn (zn z))) 10)) (f := none) g3 (one_small (by omega)) z2 (Or.inr (Or.inl ⟨rfl, rfl⟩))
    simp only [pl_some, rf_none] at c4
    rw [e3] at e4
    have T4 : XT μ3 X μ4 σ 0 0 := by
      refine XR.one (k := i) T3.2.1 T3.2.2 (by omega) (Fx.fa F4 T3.2.1.1) (fun a g => ?_) (fun a j g => ?_) ?_ (fun i hi hne h => h)
      · have g : k ≤ a ∧ a < k + 6 := g
        rcases hk with ⟨rfl, rfl⟩ | ⟨rfl, rfl⟩
        · show X + 318 ≤ a ∧ a < X + 324; omega
        · show X + 324 ≤ a ∧ a < X + 330; omega
      · have g : a = k + 4 := g
        rcases hk with ⟨rfl, rfl⟩ | ⟨rfl, rfl⟩
        · show X + 318 ≤ a ∧ a < X + 324; omega
        · show X + 324 ≤ a ∧ a < X + 330; omega
      · rcases hk with ⟨rfl, rfl⟩ | ⟨rfl, rfl⟩
        · exact g4.2.1
        · exact g4.2.1
    have F4' : Fx (fun a => a = X ∨ (k ≤ a ∧ a < k + 6)) (fun a _ => a = k + 4) μ3 μ4 := F4.mono (fun a g => Or.inr g) (fun a j g => g)
    refine ⟨μ4, ?_, (T1.trans T2).trans (T3.trans T4), ?_, g4, e4, (F1.trans F2).trans (F3.trans F4')⟩
    · simp only [c1, aI_eq, aB_eq, aR_eq, sI_eq, sB_eq, sR_eq, Option.bind_some, Option.bind_none, if_true, if_false, true_or, or_true, false_or, or_false, true_and, and_true, false_and, and_false, decide_eq_true_eq, decide_true, decide_false, eq_self, not_true_eq_false, not_false_eq_true, jfit0, N_lit, N_add, N_mul, NEG_eq, pl_none, pl_some, rf_some, rf_none, jun_ref, jun_null, ir_ref, ir_null, jr_rf, jun_rf, Option.toList_some, Option.toList_none, List.nil_append, List.cons_append]
      rw [b44_17 (h1 := ir_ref)]
      simp only [N_lit, gI12, gR12, pI12, pR12, rv12, aI_eq, aB_eq, aR_eq, sI_eq, sB_eq, sR_eq, Option.bind_some, Option.bind_none, if_true, if_false, true_or, or_true, false_or, or_false, true_and, and_true, false_and, and_false, decide_eq_true_eq, decide_true, decide_false, eq_self, not_true_eq_false, not_false_eq_true, jfit0, N_lit, N_add, N_mul, NEG_eq, pl_none, pl_some, rf_some, rf_none, jun_ref, jun_null, ir_ref, ir_null, jr_rf, jun_rf, Option.toList_some, Option.toList_none, List.nil_append, List.cons_append, T1.2.2.s0.1, c2]
      rw [b44_23 (h1 := ir_ref)]
      simp only [N_lit, gI12, gR12, pI12, pR12, rv12, aI_eq, aB_eq, aR_eq, sI_eq, sB_eq, sR_eq, Option.bind_some, Option.bind_none, if_true, if_false, true_or, or_true, false_or, or_false, true_and, and_true, false_and, and_false, decide_eq_true_eq, decide_true, decide_false, eq_self, not_true_eq_false, not_false_eq_true, jfit0, N_lit, N_add, N_mul, NEG_eq, pl_none, pl_some, rf_some, rf_none, jun_ref, jun_null, ir_ref, ir_null, jr_rf, jun_rf, Option.toList_some, Option.toList_none, List.nil_append, List.cons_append, T2.2.2.s0.1, c3]
      rw [b44_34 (hs0 := ir_ref)]
      simp only [gI6, gR6, pI6, pR6, rv6, aI_eq, aB_eq, aR_eq, sI_eq, sB_eq, sR_eq, Option.bind_some, Option.bind_none, if_true, if_false, true_or, or_true, false_or, or_false, true_and, and_true, false_and, and_false, decide_eq_true_eq, decide_true, decide_false, eq_self, not_true_eq_false, not_false_eq_true, jfit0, N_lit, N_add, N_mul, NEG_eq, pl_none, pl_some, rf_some, rf_none, jun_ref, jun_null, ir_ref, ir_null, jr_rf, jun_rf, Option.toList_some, Option.toList_none, List.nil_append, List.cons_append, g3.2.1.1.1, c4, b44_38]
    · rw [F4.iv (by show ¬ (k ≤ X ∧ _); omega)]; exact i3
theorem t_drawn1 (hb : BI μ X) (h : XR μ X σ) (hn : n ≤ 20) : ∃ μ', jC (d + 6) 42 [.ref X, .int z, .int (N n)] μ = some (some (.int (((pDraw σ z n).map N).getD aFULL)), μ') ∧ XT μ X μ' σ 0 0 := by
  obtain ⟨k12, r0, r1, r3, r4, r5, r6, r8, r9, r10, r11, -⟩ := h.s0
  obtain ⟨q0, q1, q2, q3, q4⟩ := h.br
  -- the two laid
  have h8 : Gs μ (X + 318) := h 8 (by decide)
  obtain ⟨μ1, c1, F1, G1, d1⟩ := d_become (d := d + 4) (D := X + 766) h8 (by omega) (h.gg (i := 1) (by decide)).1 (by unfold gA; omega)
  rw [(h.gg (i := 1) (by decide)).2] at d1
  have T1 : XT μ X μ1 σ 0 0 := by
    refine XR.one (k := 8) hb h (by decide) (Fx.fa F1 hb.1) (fun a g => ?_) (fun a j g => ?_) G1.2.1 (fun i hi hne h => h)
    · have g : X + 318 ≤ a ∧ a < X + 318 + 6 := g
      show X + 318 ≤ a ∧ a < X + 324; omega
    · have g : a = X + 318 + 4 := g
      show X + 318 ≤ a ∧ a < X + 324; omega
  have h1 := T1.2.2
  obtain ⟨j12, j0, j1, j3, j4, j5, j6, j8, j9, j10, j11, -⟩ := h1.s0
  obtain ⟨p0, p1, p2, p3, p4⟩ := h1.br
  have h9 : Gs μ1 (X + 324) := h1 9 (by decide)
  obtain ⟨μ2, c2, F2, G2, d2⟩ := d_become (d := d + 4) (D := X + 766) h9 (by omega) (h1.gg (i := 2) (by decide)).1 (by unfold gA; omega)
  rw [(h1.gg (i := 2) (by decide)).2] at d2
  have T2 : XT μ1 X μ2 σ 0 0 := by
    refine XR.one (k := 9) T1.2.1 h1 (by decide) (Fx.fa F2 T1.2.1.1) (fun a g => ?_) (fun a j g => ?_) G2.2.1 (fun i hi hne h => h)
    · have g : X + 324 ≤ a ∧ a < X + 324 + 6 := g
      show X + 324 ≤ a ∧ a < X + 330; omega
    · have g : a = X + 324 + 4 := g
      show X + 324 ≤ a ∧ a < X + 330; omega
  obtain ⟨G12, d12⟩ := G1.out F2 (by omega) (by omega)
  have h2 := T2.2.2
  have T3 := x_draw13 (v := z) T2.2.1 h2
  have D3 : DR (jsetI μ2 X 13 z) X (z, σ.1.1 1, σ.1.1 2) := DR.dz (s := (jiv μ2 X 13, σ.1.1 1, σ.1.1 2)) ⟨rfl, ⟨G12, d12.trans d1⟩, G2, d2⟩
  have pre : jC (d + 6) 42 [.ref X, .int z, .int (N n)] μ = jR (d + 6) 42 35 [.ref X, .int z, .int (N n), .int (N 0)] [] (jsetI μ2 X 13 z) := by
    rw [jC_run (by decide)]
    show jR (d + 6) 42 0 [.ref X, .int z, .int (N n), .retAddr 0] [] μ = _
    have k318 : jk μ (X + 318) = 6 := h8.1.1
    have k324 : jk μ1 (X + 324) = 6 := h9.1.1
    rw [b42_0]
    simp only [gI12, gR12, pI12, pR12, rv12, gI3, gR3, pI3, pR3, rv3, gI6, gR6, pI6, pR6, rv6, aI_eq, aB_eq, aR_eq, sI_eq, sB_eq, sR_eq, Option.bind_some, Option.bind_none, if_true, if_false, true_or, or_true, false_or, or_false, true_and, and_true, false_and, and_false, decide_eq_true_eq, decide_true, decide_false, eq_self, not_true_eq_false, not_false_eq_true, jfit0, N_lit, N_add, N_mul, NEG_eq, pl_none, pl_some, rf_some, rf_none, jun_ref, jun_null, ir_ref, ir_null, jr_rf, jun_rf, Option.toList_some, Option.toList_none, List.nil_append, List.cons_append, k12, r10, r0, h.k3, q1, k318, c1]
    rw [b42_14]
    simp only [gI12, gR12, pI12, pR12, rv12, gI3, gR3, pI3, pR3, rv3, gI6, gR6, pI6, pR6, rv6, aI_eq, aB_eq, aR_eq, sI_eq, sB_eq, sR_eq, Option.bind_some, Option.bind_none, if_true, if_false, true_or, or_true, false_or, or_false, true_and, and_true, false_and, and_false, decide_eq_true_eq, decide_true, decide_false, eq_self, not_true_eq_false, not_false_eq_true, jfit0, N_lit, N_add, N_mul, NEG_eq, pl_none, pl_some, rf_some, rf_none, jun_ref, jun_null, ir_ref, ir_null, jr_rf, jun_rf, Option.toList_some, Option.toList_none, List.nil_append, List.cons_append, j12, j11, j0, h1.k3, p2, k324, c2]
    rw [b42_28]
    simp only [gI12, gR12, pI12, pR12, rv12, aI_eq, aB_eq, aR_eq, sI_eq, sB_eq, sR_eq, Option.bind_some, Option.bind_none, if_true, if_false, true_or, or_true, false_or, or_false, true_and, and_true, false_and, and_false, decide_eq_true_eq, decide_true, decide_false, eq_self, not_true_eq_false, not_false_eq_true, jfit0, N_lit, N_add, N_mul, NEG_eq, pl_none, pl_some, rf_some, rf_none, jun_ref, jun_null, ir_ref, ir_null, jr_rf, jun_rf, Option.toList_some, Option.toList_none, List.nil_append, List.cons_append, h2.s0.1]
  rw [pre]
  have TT := (T1.trans T2).trans T3
  generalize jsetI μ2 X 13 z = μ3 at *
  have loop : ∀ (j i : Nat) (μ4 : jM) (s : Int32 × DG × DG), i + j = n → XT μ X μ4 σ 0 0 → DR μ4 X s → ∃ μ', jR (d + 6) 42 35 [.ref X, .int z, .int (N n), .int (N i)] [] μ4 = some (some (.int (((pMerge σ.1.2.1 (σ.1.1 0) (dits j s).2.1 (dits j s).2.2).map fun W => N W.2.length).getD aFULL)), μ') ∧ XT μ X μ' σ 0 0 := by
    intro j
    induction j with
    | zero =>
      intro i μ4 s hi T4 D4
      rw [Nat.add_zero] at hi
      subst hi
      have h4 := T4.2.2
      obtain ⟨o12, o0, _, _, _, _, _, o8, _, o10, o11, -⟩ := h4.s0
      obtain ⟨y0, y1, y2, y3, y4⟩ := h4.br
      obtain ⟨m1, m2, m3, -⟩ := h4.mt
      obtain ⟨-, ⟨a2, a3⟩, a4, a5⟩ := D4
      obtain ⟨μ5, c5, T5, F5, G5, V5, v5⟩ := t_make (d := d) (m := X + 294) (k := 6) (x := X + 318) (t := X + 324) T4.2.1 h4 (Or.inl ⟨rfl, rfl⟩) (h4.gg (i := 0) (by decide)).1 a2 a4 (h4.gg (i := 0) (by decide)).2 a3 a5 h4.ru.1 h4.ru.2.1 (by unfold gA; omega) (by omega) (by omega) (by omega)
      have h5 := T5.2.2
      obtain ⟨l12, _, _, _, _, _, _, l8, -⟩ := h5.s0
      obtain ⟨u1, u2, u3, -⟩ := h5.mt
      refine ⟨μ5, ?_, T4.trans T5⟩
      rw [b42_35, if_neg (by rw [N_lt (by omega) (by omega)]; omega)]
      simp only [gI12, gR12, pI12, pR12, rv12, gI3, gR3, pI3, pR3, rv3, gI7, gR7, pI7, pR7, rv7, aI_eq, aB_eq, aR_eq, sI_eq, sB_eq, sR_eq, Option.bind_some, Option.bind_none, if_true, if_false, true_or, or_true, false_or, or_false, true_and, and_true, false_and, and_false, decide_eq_true_eq, decide_true, decide_false, eq_self, not_true_eq_false, not_false_eq_true, jfit0, N_lit, N_add, N_mul, NEG_eq, pl_none, pl_some, rf_some, rf_none, jun_ref, jun_null, ir_ref, ir_null, jr_rf, jun_rf, Option.toList_some, Option.toList_none, List.nil_append, List.cons_append, o12, o8, o0, h4.k3, y0, o10, o11, y4, m1, c5]
      rw [b42_98]
      simp only [dits_zero]
      cases e : pMerge σ.1.2.1 (σ.1.1 0) s.2.1 s.2.2 with
      | none => simp only [mkR, N_lit, if_true, b42_116, Option.map_none, Option.getD_none]
      | some W =>
        obtain ⟨-, w2⟩ := v5 W e
        have w2 : cL μ5 (X + 301) = W.2 := w2
        have V5 : CV μ5 (X + 301) := V5
        have n5 : jiv μ5 (X + 301) 0 = N W.2.length := by rw [← w2, len_cL]; exact V5.2.2.1
        have k4 : jk μ5 (X + 301) = 4 := V5.1.1
        simp only [mkR, N_lit, n10, if_false, gI12, gR12, pI12, pR12, rv12, gI7, gR7, pI7, pR7, rv7, gI4, gR4, pI4, pR4, rv4, aI_eq, aB_eq, aR_eq, sI_eq, sB_eq, sR_eq, Option.bind_some, Option.bind_none, if_true, if_false, true_or, or_true, false_or, or_false, true_and, and_true, false_and, and_false, decide_eq_true_eq, decide_true, decide_false, eq_self, not_true_eq_false, not_false_eq_true, jfit0, N_lit, N_add, N_mul, NEG_eq, pl_none, pl_some, rf_some, rf_none, jun_ref, jun_null, ir_ref, ir_null, jr_rf, jun_rf, Option.toList_some, Option.toList_none, List.nil_append, List.cons_append, l12, l8, u1, u3, k4, n5, b42_116, Option.map_some, Option.getD_some]
    | succ j ih =>
      intro i μ4 s hi T4 D4
      simp only [dits_succ]
      have h4 := T4.2.2
      obtain ⟨o12, o0, _, _, _, _, _, o8, _, o10, o11, -⟩ := h4.s0
      have c5 := x_drawBelow (d := d + 5) (n := 2) o12 D4.1 (by decide) (by decide)
      have T5 := x_draw13 (v := zn s.1) T4.2.1 h4
      have D5 := DR.dz (v := zn s.1) D4
      generalize jsetI μ4 X 13 (zn s.1) = μ5 at *
      have h5 := T5.2.2
      obtain ⟨l12, _, _, _, _, _, _, l8, _, l10, l11, -⟩ := h5.s0
      obtain ⟨a1, ⟨a2, a3⟩, a4, a5⟩ := D5
      have a1 : jiv μ5 X 13 = zn s.1 := a1
      have a3 : dG μ5 (xA (X + 318)) = s.2.1 := a3
      have a5 : dG μ5 (xA (X + 324)) = s.2.2 := a5
      have z2 : zb (zn s.1) 2 < 2 := zb_lt (by decide)
      have pre2 : ∀ Z, (if zb (zn s.1) 2 = 0 then jR (d + 6) 42 60 [.ref X, .int z, .int (N n), .int (N i)] [.ref (X + 318), .ref X] μ5 else jR (d + 6) 42 60 [.ref X, .int z, .int (N n), .int (N i)] [.ref (X + 324), .ref X] μ5) = Z → jR (d + 6) 42 35 [.ref X, .int z, .int (N n), .int (N i)] [] μ4 = Z := by
        intro Z hZ
        rw [← hZ, b42_35, if_pos (by rw [N_lt (by omega) (by omega)]; omega)]
        simp only [N_lit, gI12, gR12, pI12, pR12, rv12, aI_eq, aB_eq, aR_eq, sI_eq, sB_eq, sR_eq, Option.bind_some, Option.bind_none, if_true, if_false, true_or, or_true, false_or, or_false, true_and, and_true, false_and, and_false, decide_eq_true_eq, decide_true, decide_false, eq_self, not_true_eq_false, not_false_eq_true, jfit0, N_lit, N_add, N_mul, NEG_eq, pl_none, pl_some, rf_some, rf_none, jun_ref, jun_null, ir_ref, ir_null, jr_rf, jun_rf, Option.toList_some, Option.toList_none, List.nil_append, List.cons_append, o12, c5]
        rw [b42_46 (hs0 := ir_ref)]
        simp only [N_lit, N_inj (show zb (zn s.1) 2 < 2147483648 by omega) (show 0 < 2147483648 by decide), gI12, gR12, pI12, pR12, rv12, aI_eq, aB_eq, aR_eq, sI_eq, sB_eq, sR_eq, Option.bind_some, Option.bind_none, if_true, if_false, true_or, or_true, false_or, or_false, true_and, and_true, false_and, and_false, decide_eq_true_eq, decide_true, decide_false, eq_self, not_true_eq_false, not_false_eq_true, jfit0, N_lit, N_add, N_mul, NEG_eq, pl_none, pl_some, rf_some, rf_none, jun_ref, jun_null, ir_ref, ir_null, jr_rf, jun_rf, Option.toList_some, Option.toList_none, List.nil_append, List.cons_append, l12, l10, l11]
      by_cases e2 : zb (zn s.1) 2 = 0
      · obtain ⟨μ6, c6, T6, i6, g6, e6, F6⟩ := x_drawCell (d := d + 2) (k := X + 318) (i := 8) T5.2.1 h5 (Or.inl ⟨rfl, rfl⟩) a1 a2 a3
        obtain ⟨b4, b5⟩ := a4.outx F6 (fun a g => by
          have g : a = X ∨ (X + 318 ≤ a ∧ a < X + 318 + 6) := g
          omega) (fun a j g => by
          have g : a = X + 318 + 4 := g
          omega)
        have hs : dstep s = (jiv μ6 X 13, dG μ6 (xA (X + 318)), s.2.2) := by
          unfold dstep
          rw [if_pos e2, i6, e6]
          by_cases e0 : s.2.1.length = 0
          · rw [if_pos e0, if_pos e0, if_pos e0]
          · rw [if_neg e0, if_neg e0, if_neg e0]
        obtain ⟨μ', v1, v2⟩ := ih (i + 1) μ6 (dstep s) (by omega) ((T4.trans T5).trans T6) (by rw [hs]; exact ⟨rfl, ⟨g6, rfl⟩, b4, b5.trans a5⟩)
        refine ⟨μ', pre2 _ ?_, v2⟩
        rw [if_pos e2, b42_60 (hs1 := ir_ref) (hs0 := ir_ref)]
        simp only [gI12, gR12, pI12, pR12, rv12, aI_eq, aB_eq, aR_eq, sI_eq, sB_eq, sR_eq, Option.bind_some, Option.bind_none, if_true, if_false, true_or, or_true, false_or, or_false, true_and, and_true, false_and, and_false, decide_eq_true_eq, decide_true, decide_false, eq_self, not_true_eq_false, not_false_eq_true, jfit0, N_lit, N_add, N_mul, NEG_eq, pl_none, pl_some, rf_some, rf_none, jun_ref, jun_null, ir_ref, ir_null, jr_rf, jun_rf, Option.toList_some, Option.toList_none, List.nil_append, List.cons_append, l12, c6, b42_63, N_add]
        exact v1
      · obtain ⟨μ6, c6, T6, i6, g6, e6, F6⟩ := x_drawCell (d := d + 2) (k := X + 324) (i := 9) T5.2.1 h5 (Or.inr ⟨rfl, rfl⟩) a1 a4 a5
        obtain ⟨b4, b5⟩ := a2.outx F6 (fun a g => by
          have g : a = X ∨ (X + 324 ≤ a ∧ a < X + 324 + 6) := g
          omega) (fun a j g => by
          have g : a = X + 324 + 4 := g
          omega)
        have hs : dstep s = (jiv μ6 X 13, s.2.1, dG μ6 (xA (X + 324))) := by
          unfold dstep
          rw [if_neg e2, i6, e6]
          by_cases e0 : s.2.2.length = 0
          · rw [if_pos e0, if_pos e0, if_pos e0]
          · rw [if_neg e0, if_neg e0, if_neg e0]
        obtain ⟨μ', v1, v2⟩ := ih (i + 1) μ6 (dstep s) (by omega) ((T4.trans T5).trans T6) (by rw [hs]; exact ⟨rfl, ⟨b4, b5.trans a3⟩, g6, rfl⟩)
        refine ⟨μ', pre2 _ ?_, v2⟩
        rw [if_neg e2, b42_60 (hs1 := ir_ref) (hs0 := ir_ref)]
        simp only [gI12, gR12, pI12, pR12, rv12, aI_eq, aB_eq, aR_eq, sI_eq, sB_eq, sR_eq, Option.bind_some, Option.bind_none, if_true, if_false, true_or, or_true, false_or, or_false, true_and, and_true, false_and, and_false, decide_eq_true_eq, decide_true, decide_false, eq_self, not_true_eq_false, not_false_eq_true, jfit0, N_lit, N_add, N_mul, NEG_eq, pl_none, pl_some, rf_some, rf_none, jun_ref, jun_null, ir_ref, ir_null, jr_rf, jun_rf, Option.toList_some, Option.toList_none, List.nil_append, List.cons_append, l12, c6, b42_63, N_add]
        exact v1
  obtain ⟨μ', v1, v2⟩ := loop n 0 μ3 (z, σ.1.1 1, σ.1.1 2) (by omega) TT D3
  refine ⟨μ', ?_, v2⟩
  have e : ((pDraw σ z n).map N).getD aFULL = ((pMerge σ.1.2.1 (σ.1.1 0) (dits n (z, σ.1.1 1, σ.1.1 2)).2.1 (dits n (z, σ.1.1 1, σ.1.1 2)).2.2).map fun W => N W.2.length).getD aFULL := by
    unfold pDraw
    generalize dits n (z, σ.1.1 1, σ.1.1 2) = P
    rw [Option.map_map]
    rfl
  rw [e]
  exact v1
theorem t_drawn (hb : BI μ X) (h : XR μ X σ) : OP (d + 7) 41 [.ref X, .int z, .int x] μ X (o_drawn σ z x) 0 0 := by
  have k12 := h.s0.1
  unfold OP
  rw [jC_run (by decide)]
  show ∃ μ', jR (d + 7) 41 0 [.ref X, .int z, .int x] [] μ = _ ∧ _
  rw [b41_0]
  simp only [x_isIn, aI_eq, aB_eq, aR_eq, sI_eq, sB_eq, sR_eq, Option.bind_some, Option.bind_none, if_true, if_false, true_or, or_true, false_or, or_false, true_and, and_true, false_and, and_false, decide_eq_true_eq, decide_true, decide_false, eq_self, not_true_eq_false, not_false_eq_true, jfit0, N_lit, N_add, N_mul, NEG_eq, pl_none, pl_some, rf_some, rf_none, jun_ref, jun_null, ir_ref, ir_null, jr_rf, jun_rf, Option.toList_some, Option.toList_none, List.nil_append, List.cons_append]
  rw [b41_7]
  unfold o_drawn
  cases e : ix 21 x with
  | none =>
    refine ⟨μ, ?_, XT.refl hb h⟩
    have hx := ix_none (by decide) e
    rw [pN_neg (fun g => ?_), if_pos (by rfl), b41_21]; rfl
    rcases hx with h1 | h1
    · exact g.1 h1
    · obtain ⟨b, hb, rfl⟩ := N_of g.1
      have g2 := g.2
      rw [N_lt (by decide) hb] at g2
      rw [N_lt hb (by decide)] at h1
      omega
  | some n =>
    obtain ⟨rfl, hn⟩ := ix_some (by decide) e
    obtain ⟨μ', c1, T1⟩ := t_drawn1 (d := d) (z := z) (n := n) hb h (by omega)
    refine ⟨μ', ?_, T1⟩
    rw [pN_pos ⟨by rw [N_lt (by omega) (by decide)]; omega, by rw [N_lt (by decide) (by omega)]; omega⟩]
    simp only [N_lit, n10, if_false, gI12, gR12, pI12, pR12, rv12, aI_eq, aB_eq, aR_eq, sI_eq, sB_eq, sR_eq, Option.bind_some, Option.bind_none, if_true, if_false, true_or, or_true, false_or, or_false, true_and, and_true, false_and, and_false, decide_eq_true_eq, decide_true, decide_false, eq_self, not_true_eq_false, not_false_eq_true, jfit0, N_lit, N_add, N_mul, NEG_eq, pl_none, pl_some, rf_some, rf_none, jun_ref, jun_null, ir_ref, ir_null, jr_rf, jun_rf, Option.toList_some, Option.toList_none, List.nil_append, List.cons_append, k12, c1, b41_16, b41_21]
/-- in lowest terms -/
theorem x_lowest {f m : Nat} {pt : Nat} (hm : 1 ≤ m) (hm2 : m ≤ 8) (hf : f ≤ m) (hp : pt < 2) : jC d 46 [.int (N pt), .int (N f), .int (N m)] μ = some (some (.int (N ((if pt = 0 then f else m) / Nat.gcd f m))), μ) := by
  have hask : ∃ A, A = (if pt = 0 then f else m) ∧ A ≤ 8 := ⟨_, rfl, by split <;> omega⟩
  obtain ⟨A, hA, hA8⟩ := hask
  rw [← hA]
  have hg1 : 1 ≤ Nat.gcd f m := Nat.gcd_pos_of_pos_right _ (by omega)
  have hgm : Nat.gcd f m ∣ m := Nat.gcd_dvd_right _ _
  have hgf : Nat.gcd f m ∣ f := Nat.gcd_dvd_left _ _
  have loop : ∀ (k : Nat), Nat.gcd f m ≤ k + 1 → k + 1 ≤ 8 → jR d 46 13 [.int (N pt), .int (N f), .int (N m), .int (N A), .int (N (k + 1))] [] μ = some (some (.int (N (A / Nat.gcd f m))), μ) := by
    intro k
    induction k with
    | zero =>
      intro h1 h2
      have : Nat.gcd f m = 1 := by omega
      rw [b46_13]
      simp only [N_lit, N_lt (show 1 < 2147483648 by decide) (show 0 + 1 < 2147483648 by decide)]
      rw [if_neg (by decide), this, Nat.div_one]
    | succ k ih =>
      intro h1 h2
      have ek0 : ¬ N (k + 1 + 1) = N 0 := by rw [N_inj (by omega) (by decide)]; omega
      rw [b46_13]
      simp only [N_lit, N_lt (show 1 < 2147483648 by decide) (show k + 1 + 1 < 2147483648 by omega), show 1 < k + 1 + 1 by omega, if_true, ek0, if_false, N_modL (show f < 2147483648 by omega) (show 0 < k + 1 + 1 by omega) (show k + 1 + 1 < 2147483648 by omega), N_modL (show m < 2147483648 by omega) (show 0 < k + 1 + 1 by omega) (show k + 1 + 1 < 2147483648 by omega), N_inj (show f % (k + 1 + 1) < 2147483648 by have := Nat.mod_le f (k + 1 + 1); omega) (show 0 < 2147483648 by decide), N_inj (show m % (k + 1 + 1) < 2147483648 by have := Nat.mod_le m (k + 1 + 1); omega) (show 0 < 2147483648 by decide), N_divL (show A < 2147483648 by omega) (show 0 < k + 1 + 1 by omega) (show k + 1 + 1 < 2147483648 by omega)]
      have next : ¬ (f % (k + 1 + 1) = 0 ∧ m % (k + 1 + 1) = 0) → jR d 46 38 [.int (N pt), .int (N f), .int (N m), .int (N A), .int (N (k + 1 + 1))] [] μ = some (some (.int (N (A / Nat.gcd f m))), μ) := by
        intro hn
        rw [b46_38]
        simp only [N_lit, NEG_eq, N_pred (show 1 ≤ k + 1 + 1 by omega), Nat.add_sub_cancel]
        refine ih ?_ (by omega)
        by_cases e : Nat.gcd f m = k + 1 + 1
        · exfalso
          rw [e] at hgm hgf
          exact hn ⟨Nat.mod_eq_zero_of_dvd hgf, Nat.mod_eq_zero_of_dvd hgm⟩
        · omega
      by_cases e1 : f % (k + 1 + 1) = 0
      · rw [if_pos e1]
        by_cases e2 : m % (k + 1 + 1) = 0
        · rw [if_pos e2]
          have hd : (k + 1 + 1) ∣ Nat.gcd f m := Nat.dvd_gcd (Nat.dvd_of_mod_eq_zero e1) (Nat.dvd_of_mod_eq_zero e2)
          have hle := Nat.le_of_dvd (by omega) hd
          have : Nat.gcd f m = k + 1 + 1 := by omega
          rw [this]
        · rw [if_neg e2]; exact next (fun g => e2 g.2)
      · rw [if_neg e1]; exact next (fun g => e1 g.1)
  rw [jC_run (by decide)]
  show jR d 46 0 [.int (N pt), .int (N f), .int (N m), .retAddr 0, .retAddr 0] [] μ = _
  rw [b46_0]
  have hle : Nat.gcd f m ≤ m := Nat.le_of_dvd (by omega) hgm
  obtain ⟨k, rfl⟩ : ∃ k, m = k + 1 := ⟨m - 1, by omega⟩
  simp only [N_lit, N_inj (show pt < 2147483648 by omega) (show 0 < 2147483648 by decide)]
  by_cases e0 : pt = 0
  · rw [if_pos e0, b46_9]
    rw [if_pos e0] at hA
    subst hA
    exact loop k hle hm2
  · rw [if_neg e0, b46_9]
    rw [if_neg e0] at hA
    subst hA
    exact loop k hle hm2
end TOP
