/-! THE CLASS's CALLS: what cells hold and are worth, how they are printed -/
section TOP
variable {μ μ' μ'' : jM} {n w m v lo hi a b r q s D d X i k p : Nat} {σ σ' : SG} {x y z u g c : Int32}
/-- a cell asked for -/
theorem t_valueOf {G : DG} (hb : BI μ X) (h : XR μ X σ) (hg : GV μ (X + 766) k) (e : dG μ (xA k) = G) (hz : KZ G) (hd : k + 6 ≤ X + 285 ∨ X + 289 ≤ k) (hp : p < G.length) (hc : i < 3) : ∃ μ', jC (d + 102) 59 [.ref (X + 285), .ref k, .int (N p), .int (N i)] μ = some (some (.int (vlC G p i).2), μ') ∧ XT μ X μ' σ 0 0 ∧ jiv μ' (X + 285) 1 = (vlC G p i).1 ∧ Fx (fun a => X + 285 ≤ a ∧ a < X + 285 + 4) (fun a j => a = X + 285 ∧ j = 0) μ μ' := by
  subst e
  obtain ⟨μ', c1, F, v1, q1⟩ := x_valueOf (d := d) hz (h 4 (by decide)) hg (by omega) hd (by rw [← len_dG]; exact hp) hc
  refine ⟨μ', c1, ?_, v1, F⟩
  refine XR.one (k := 4) hb h (by decide) (Fx.fa F hb.1) (fun a g => ?_) (fun a j g => ?_) q1 (fun i hi hne h => by rcases (show i = 0 ∨ i = 1 ∨ i = 2 ∨ i = 3 ∨ i = 4 ∨ i = 5 ∨ i = 6 ∨ i = 7 ∨ i = 8 ∨ i = 9 ∨ i = 10 ∨ i = 11 ∨ i = 12 by omega) with rfl | rfl | rfl | rfl | rfl | rfl | rfl | rfl | rfl | rfl | rfl | rfl | rfl <;> first | exact absurd rfl hne | exact h)
  · have g : X + 285 ≤ a ∧ a < X + 285 + 4 := g
    show X + 285 ≤ a ∧ a < X + 289; omega
  · have g : a = X + 285 ∧ j = 0 := g
    show X + 285 ≤ a ∧ a < X + 289; omega
theorem XR.k2 (h : XR μ X σ) : jk μ (X + 285) = 2 := (h 4 (by decide)).1.1
theorem t_told (hb : BI μ X) (h : XR μ X σ) (hw : ∀ i, i < 4 → KZ (σ.1.1 i)) : OP (d + 103) 28 [.ref X, .int g, .int x, .int y, .int z] μ X (o_told σ g x y z) 0 0 := by
  obtain ⟨k12, r0, r1, r3, r4, r5, -⟩ := h.s0
  unfold OP
  rw [jC_run (by decide)]
  show ∃ μ', jR (d + 103) 28 0 [.ref X, .int g, .int x, .int y, .int z, .retAddr 0] [] μ = _ ∧ _
  rw [b28_0]
  simp only [x_isCell h, gI12, gR12, pI12, pR12, rv12, aI_eq, aB_eq, aR_eq, sI_eq, sB_eq, sR_eq, Option.bind_some, Option.bind_none, if_true, if_false, true_or, or_true, false_or, or_false, true_and, and_true, false_and, and_false, decide_eq_true_eq, decide_true, decide_false, eq_self, not_true_eq_false, not_false_eq_true, jfit0, N_lit, N_add, N_mul, NEG_eq, pl_none, pl_some, rf_some, rf_none, jun_ref, jun_null, ir_ref, ir_null, jr_rf, jun_rf, Option.toList_some, Option.toList_none, List.nil_append, List.cons_append, k12]
  rw [b28_7]
  unfold o_told
  cases e : cix σ 4 g x y with
  | none =>
    refine ⟨μ, ?_, XT.refl hb h⟩
    simp only [Option.isSome_none, bN_false, N_lit, if_true]
  | some p =>
    obtain ⟨rfl, hi, rfl, hp, rfl, hc⟩ := cix_4 e h.len8
    have hl := h.l8 hi
    simp only [Option.isSome_some, bN_true, N_lit, n10, if_false, gI12, gR12, pI12, pR12, rv12, gI3, gR3, pI3, pR3, rv3, aI_eq, aB_eq, aR_eq, sI_eq, sB_eq, sR_eq, Option.bind_some, Option.bind_none, if_true, if_false, true_or, or_true, false_or, or_false, true_and, and_true, false_and, and_false, decide_eq_true_eq, decide_true, decide_false, eq_self, not_true_eq_false, not_false_eq_true, jfit0, N_lit, N_add, N_mul, NEG_eq, pl_none, pl_some, rf_some, rf_none, jun_ref, jun_null, ir_ref, ir_null, jr_rf, jun_rf, Option.toList_some, Option.toList_none, List.nil_append, List.cons_append, k12, r0, h.k3, t_gridAt h hi]
    rw [b28_21 (hs0 := ir_ref)]
    have c1 := d_kindAt (d := d + 101) (p := some p.2.1) (c := p.2.2) (h.gg hi).1 (one_small (by omega)) hc
    have c2 := d_noteAt (d := d + 101) (p := some p.2.1) (c := p.2.2) (h.gg hi).1 (one_small (by omega)) hc
    rw [(h.gg hi).2] at c1 c2
    simp only [pl_some] at c1 c2
    simp only [N_lit, gI6, gR6, pI6, pR6, rv6, gI12, gR12, pI12, pR12, rv12, gI2, gR2, pI2, pR2, rv2, aI_eq, aB_eq, aR_eq, sI_eq, sB_eq, sR_eq, Option.bind_some, Option.bind_none, if_true, if_false, true_or, or_true, false_or, or_false, true_and, and_true, false_and, and_false, decide_eq_true_eq, decide_true, decide_false, eq_self, not_true_eq_false, not_false_eq_true, jfit0, N_lit, N_add, N_mul, NEG_eq, pl_none, pl_some, rf_some, rf_none, jun_ref, jun_null, ir_ref, ir_null, jr_rf, jun_rf, Option.toList_some, Option.toList_none, List.nil_append, List.cons_append, h.k6 hi, c1, c2, d_keyAt (h.gg hi).1 (show p.2.1 < 2147483648 by omega), (h.gg hi).2, k12, r5, h.k2, b28_63, b28_71, b28_78]
    by_cases e0 : z = N 0
    · simp only [if_pos e0]
      exact ⟨μ, rfl, XT.refl hb h⟩
    · simp only [if_neg e0]
      by_cases e1 : z = N 1
      · simp only [if_pos e1]
        exact ⟨μ, rfl, XT.refl hb h⟩
      · simp only [if_neg e1]
        by_cases e2 : z = N 2
        · simp only [if_pos e2]
          exact ⟨μ, rfl, XT.refl hb h⟩
        · simp only [if_neg e2]
          by_cases e3 : z = N 3
          · simp only [if_pos e3]
            obtain ⟨μ', v1, T1, v2, -⟩ := t_valueOf (d := d) hb h (h.gg hi).1 (h.gg hi).2 (hw _ hi) (by unfold gA; omega) hp hc
            obtain ⟨j12, -, -, -, -, j5, -⟩ := T1.2.2.s0
            refine ⟨μ', ?_, T1⟩
            simp only [v1, aI_eq, aB_eq, aR_eq, sI_eq, sB_eq, sR_eq, Option.bind_some, Option.bind_none, if_true, if_false, true_or, or_true, false_or, or_false, true_and, and_true, false_and, and_false, decide_eq_true_eq, decide_true, decide_false, eq_self, not_true_eq_false, not_false_eq_true, jfit0, N_lit, N_add, N_mul, NEG_eq, pl_none, pl_some, rf_some, rf_none, jun_ref, jun_null, ir_ref, ir_null, jr_rf, jun_rf, Option.toList_some, Option.toList_none, List.nil_append, List.cons_append, b28_90, gI12, gR12, pI12, pR12, rv12, gI2, gR2, pI2, pR2, rv2, j12, j5, T1.2.2.k2, v2]
          · simp only [if_neg e3]
            exact ⟨μ, rfl, XT.refl hb h⟩
theorem t_value (hb : BI μ X) (h : XR μ X σ) (hw : ∀ i, i < 4 → KZ (σ.1.1 i)) : ∃ μ', jC (d + 103) 29 [.ref X, .int g, .int x, .int y] μ = some (some (.long (o_value σ g x y)), μ') ∧ XT μ X μ' σ 0 0 := by
  obtain ⟨k12, r0, r1, r3, r4, r5, -⟩ := h.s0
  rw [jC_run (by decide)]
  show ∃ μ', jR (d + 103) 29 0 [.ref X, .int g, .int x, .int y, .retAddr 0] [] μ = _ ∧ _
  rw [b29_0]
  simp only [x_isCell h, gI12, gR12, pI12, pR12, rv12, aI_eq, aB_eq, aR_eq, sI_eq, sB_eq, sR_eq, Option.bind_some, Option.bind_none, if_true, if_false, true_or, or_true, false_or, or_false, true_and, and_true, false_and, and_false, decide_eq_true_eq, decide_true, decide_false, eq_self, not_true_eq_false, not_false_eq_true, jfit0, N_lit, N_add, N_mul, NEG_eq, pl_none, pl_some, rf_some, rf_none, jun_ref, jun_null, ir_ref, ir_null, jr_rf, jun_rf, Option.toList_some, Option.toList_none, List.nil_append, List.cons_append, k12]
  rw [b29_7]
  unfold o_value
  cases e : cix σ 4 g x y with
  | none =>
    refine ⟨μ, ?_, XT.refl hb h⟩
    simp only [Option.isSome_none, bN_false, N_lit, if_true]
    rfl
  | some p =>
    obtain ⟨rfl, hi, rfl, hp, rfl, hc⟩ := cix_4 e h.len8
    have hl := h.l8 hi
    simp only [Option.isSome_some, bN_true, N_lit, n10, if_false, gI12, gR12, pI12, pR12, rv12, gI3, gR3, pI3, pR3, rv3, aI_eq, aB_eq, aR_eq, sI_eq, sB_eq, sR_eq, Option.bind_some, Option.bind_none, if_true, if_false, true_or, or_true, false_or, or_false, true_and, and_true, false_and, and_false, decide_eq_true_eq, decide_true, decide_false, eq_self, not_true_eq_false, not_false_eq_true, jfit0, N_lit, N_add, N_mul, NEG_eq, pl_none, pl_some, rf_some, rf_none, jun_ref, jun_null, ir_ref, ir_null, jr_rf, jun_rf, Option.toList_some, Option.toList_none, List.nil_append, List.cons_append, k12, r0, r5, h.k3, t_gridAt h hi]
    rw [b29_26 (hs1 := ir_ref) (hs0 := ir_ref)]
    obtain ⟨μ', v1, T1, v2, -⟩ := t_valueOf (d := d) hb h (h.gg hi).1 (h.gg hi).2 (hw _ hi) (by unfold gA; omega) hp hc
    obtain ⟨j12, -, -, -, -, j5, -⟩ := T1.2.2.s0
    refine ⟨μ', ?_, T1⟩
    simp only [gI2, gR2, pI2, pR2, rv2, aI_eq, aB_eq, aR_eq, sI_eq, sB_eq, sR_eq, Option.bind_some, Option.bind_none, if_true, if_false, true_or, or_true, false_or, or_false, true_and, and_true, false_and, and_false, decide_eq_true_eq, decide_true, decide_false, eq_self, not_true_eq_false, not_false_eq_true, jfit0, N_lit, N_add, N_mul, NEG_eq, pl_none, pl_some, rf_some, rf_none, jun_ref, jun_null, ir_ref, ir_null, jr_rf, jun_rf, Option.toList_some, Option.toList_none, List.nil_append, List.cons_append, h.k2, v1, b29_31, gI12, gR12, pI12, pR12, rv12, j12, j5, T1.2.2.k2, v2, b29_52]
    by_cases e1 : (vlC (σ.1.1 p.1) p.2.1 p.2.2).1 = N 0
    · simp only [if_pos e1]
    · simp only [if_neg e1]; rfl
theorem PS.fin {μb : jM} {t cap : Nat} {s : List Nat} (h : PS μb n w μ a t cap s) : Fa (fun _ => False) (fun _ _ => False) 4 180 μb μ := by
  obtain ⟨h1, h2, h3, h4, h5, h6, h7⟩ := h
  obtain ⟨f1, f2, f3, f4, f5, f6, f7⟩ := h1
  have hg : gp cap ≤ 2 := by
    unfold gp
    split
    · omega
    · split <;> omega
  exact ⟨f1, ⟨f2.1, by omega⟩, ⟨f3.1, by omega⟩, f4, f5, f6, f7⟩
theorem Fa.xt (hb : BI μ X) (h : XR μ X σ) (F : Fa (fun _ => False) (fun _ _ => False) n w μ μ') : XT μ X μ' σ n w :=
  ⟨F.mono (fun _ _ g => g.elim) (fun _ _ _ g => g.elim) (Nat.le_refl _) (Nat.le_refl _), hb.out F (fun _ g => g.elim) (fun _ _ g => g.elim), h.out hb F (fun _ g => g.elim) (fun _ _ g => g.elim)⟩
theorem t_print (hb : BI μ X) (h : XR μ X σ) (hw : ∀ i, i < 4 → KZ (σ.1.1 i)) : OP (d + 10) 30 [.ref X, .int g, .int x, .int y, .int z] μ X (o_print σ g x y z) 4 180 := by
  obtain ⟨k12, r0, -⟩ := h.s0
  unfold OP
  rw [jC_run (by decide)]
  show ∃ μ', jR (d + 10) 30 0 [.ref X, .int g, .int x, .int y, .int z, .retAddr 0] [] μ = _ ∧ _
  rw [b30_0]
  simp only [x_isCell h, gI12, gR12, pI12, pR12, rv12, aI_eq, aB_eq, aR_eq, sI_eq, sB_eq, sR_eq, Option.bind_some, Option.bind_none, if_true, if_false, true_or, or_true, false_or, or_false, true_and, and_true, false_and, and_false, decide_eq_true_eq, decide_true, decide_false, eq_self, not_true_eq_false, not_false_eq_true, jfit0, N_lit, N_add, N_mul, NEG_eq, pl_none, pl_some, rf_some, rf_none, jun_ref, jun_null, ir_ref, ir_null, jr_rf, jun_rf, Option.toList_some, Option.toList_none, List.nil_append, List.cons_append, k12]
  rw [b30_7]
  unfold o_print
  cases e : cix σ 4 g x y with
  | none =>
    refine ⟨μ, ?_, XT.refl hb h⟩
    simp only [Option.isSome_none, bN_false, N_lit, if_true]
  | some p =>
    obtain ⟨rfl, hi, rfl, hp, rfl, hc⟩ := cix_4 e h.len8
    have hl := h.l8 hi
    obtain ⟨hj, ⟨B, hB, hx, hA⟩, hz⟩ := hb
    have hb : BI μ X := ⟨hj, ⟨B, hB, hx, hA⟩, hz⟩
    -- the builder
    have F0 : Fa (fun _ => False) (fun _ _ => False) 1 4 μ (jnew μ 1 0 4) := Fa.new hj
    obtain ⟨μ1, c1, B1, F1, s1⟩ := sb_new (d := d + 7) (a := jsz μ) (μ := jnew μ 1 0 4) (hx.1.of F0.1) F0.jw nk_e (by rw [nv_e])
    have F01 : Fa (fun _ => False) (fun _ _ => False) 2 20 μ μ1 := F0.trans F1 (fun a ha g => by have g : a = jsz μ := g; omega) (fun a j ha g => by have g : a = jsz μ := g; omega)
    have P1 : PS μ 2 20 μ1 (jsz μ) (jsz (jnew μ 1 0 4)) 16 [] := ⟨F01, B1, Nat.le_refl _, by rw [nsz]; omega, Nat.le_refl _, by have := F01.2.1.2; show _ ≤ _ + (2 + 0); omega, by have := F01.2.2.1.2; show _ ≤ _ + (20 + 80 * 0); omega⟩
    have T1 := Fa.xt hb h F01
    have h1 := T1.2.2
    obtain ⟨j12, j0, -⟩ := h1.s0
    obtain ⟨μ2, t2, cap2, c2, P2⟩ := d_printCell (d := d) (p := p.2.1) (c := p.2.2) (g := gA X p.1) (D := X + 766) hx hj ⟨(h.gg hi).1, (h.gg hi).2⟩ (hw _ hi) P1 (by omega) hc
    have T2 := Fa.xt hb h P2.fin
    have k1 : jk μ2 (jsz μ) = 1 := P2.2.1.1.1
    have pre : ∀ R, jR (d + 10) 30 37 [.ref X, .int (N p.1), .int (N p.2.1), .int (N p.2.2), .int z, .ref (jsz μ)] [] μ2 = R → (if (bN (some p).isSome = 0) then some (some (Value.int (-2)), μ) else (jC (d + 9) 291 [.ref (jsz μ)] (jnew μ 1 0 4)).bind fun p1 => jR (d + 10) 30 20 [.ref X, .int (N p.1), .int (N p.2.1), .int (N p.2.2), .int z, .retAddr 0] (p1.1.toList ++ [.ref (jsz μ)]) p1.2) = R := by
      intro R hR
      rw [← hR]
      simp only [Option.isSome_some, bN_true, N_lit, n10, if_false, c1, Option.bind_some, Option.toList_none, List.nil_append]
      rw [b30_20]
      simp only [gI12, gR12, pI12, pR12, rv12, gI3, gR3, pI3, pR3, rv3, aI_eq, aB_eq, aR_eq, sI_eq, sB_eq, sR_eq, Option.bind_some, Option.bind_none, if_true, if_false, true_or, or_true, false_or, or_false, true_and, and_true, false_and, and_false, decide_eq_true_eq, decide_true, decide_false, eq_self, not_true_eq_false, not_false_eq_true, jfit0, N_lit, N_add, N_mul, NEG_eq, pl_none, pl_some, rf_some, rf_none, jun_ref, jun_null, ir_ref, ir_null, jr_rf, jun_rf, Option.toList_some, Option.toList_none, List.nil_append, List.cons_append, j12, j0, h1.k3, t_gridAt h1 hi]
      rw [b30_30 (hs0 := ir_ref)]
      simp only [gI6, gR6, pI6, pR6, rv6, aI_eq, aB_eq, aR_eq, sI_eq, sB_eq, sR_eq, Option.bind_some, Option.bind_none, if_true, if_false, true_or, or_true, false_or, or_false, true_and, and_true, false_and, and_false, decide_eq_true_eq, decide_true, decide_false, eq_self, not_true_eq_false, not_false_eq_true, jfit0, N_lit, N_add, N_mul, NEG_eq, pl_none, pl_some, rf_some, rf_none, jun_ref, jun_null, ir_ref, ir_null, jr_rf, jun_rf, Option.toList_some, Option.toList_none, List.nil_append, List.cons_append, h1.k6 hi, c2]
    dsimp only
    generalize celp (σ.1.1 p.1) (cO [] (σ.1.1 p.1) (some p.2.1) p.2.2) = t at *
    have hlen : t.length ≤ 80 := by
      have := P2.2.1.2.1
      omega
    have l2 := sb_length (d := d + 8) P2.2.1
    have hx2 := (hx.fa hj P2.1 (fun _ _ => id) (fun _ _ _ => id)).1
    by_cases e1 : z = NEG
    · simp only [if_pos e1]
      refine ⟨μ2, pre _ ?_, T2⟩
      rw [b30_37]
      simp only [N_lit, NEG_eq, e1, if_true, gI1, gR1, pI1, pR1, rv1, aI_eq, aB_eq, aR_eq, sI_eq, sB_eq, sR_eq, Option.bind_some, Option.bind_none, if_true, if_false, true_or, or_true, false_or, or_false, true_and, and_true, false_and, and_false, decide_eq_true_eq, decide_true, decide_false, eq_self, not_true_eq_false, not_false_eq_true, jfit0, N_lit, N_add, N_mul, NEG_eq, pl_none, pl_some, rf_some, rf_none, jun_ref, jun_null, ir_ref, ir_null, jr_rf, jun_rf, Option.toList_some, Option.toList_none, List.nil_append, List.cons_append, k1, l2, b30_48]
    · simp only [if_neg e1]
      have low : z < N 0 → ∃ μ', jR (d + 10) 30 37 [.ref X, .int (N p.1), .int (N p.2.1), .int (N p.2.2), .int z, .ref (jsz μ)] [] μ2 = some (some (.int aOUT), μ') ∧ XT μ X μ' σ 4 180 := fun hz => by
        refine ⟨μ2, ?_, T2⟩
        rw [b30_37]
        simp only [N_lit, NEG_eq, e1, if_false, hz, if_true, b30_74, b30_76]
      rw [ix_cases]
      by_cases e2 : z < N 0
      · simp only [if_pos e2, Option.bind_none, Option.getD_none]
        obtain ⟨μ', q1, q2⟩ := low e2
        exact ⟨μ', pre _ q1, q2⟩
      · obtain ⟨k, hk, rfl⟩ := N_of e2
        simp only [if_neg e2, N_lt hk (show t.length < 2147483648 by omega)]
        by_cases e3 : k < t.length
        · have hgt : t[k]? = some t[k] := List.getElem?_eq_getElem e3
          have c3 := sb_charAt (d := d + 5) hx2 P2.2.1 hgt
          simp only [if_pos e3, Option.bind_some, N_nat hk, hgt, Option.map_some, Option.getD_some]
          refine ⟨μ2, pre _ ?_, T2⟩
          rw [b30_37]
          simp only [N_lit, NEG_eq, e1, if_false, e2, gI1, gR1, pI1, pR1, rv1, aI_eq, aB_eq, aR_eq, sI_eq, sB_eq, sR_eq, Option.bind_some, Option.bind_none, if_true, if_false, true_or, or_true, false_or, or_false, true_and, and_true, false_and, and_false, decide_eq_true_eq, decide_true, decide_false, eq_self, not_true_eq_false, not_false_eq_true, jfit0, N_lit, N_add, N_mul, NEG_eq, pl_none, pl_some, rf_some, rf_none, jun_ref, jun_null, ir_ref, ir_null, jr_rf, jun_rf, Option.toList_some, Option.toList_none, List.nil_append, List.cons_append, k1, l2]
          rw [b30_61]
          simp only [N_lt hk (show t.length < 2147483648 by omega), e3, if_true, gI1, gR1, pI1, pR1, rv1, aI_eq, aB_eq, aR_eq, sI_eq, sB_eq, sR_eq, Option.bind_some, Option.bind_none, if_true, if_false, true_or, or_true, false_or, or_false, true_and, and_true, false_and, and_false, decide_eq_true_eq, decide_true, decide_false, eq_self, not_true_eq_false, not_false_eq_true, jfit0, N_lit, N_add, N_mul, NEG_eq, pl_none, pl_some, rf_some, rf_none, jun_ref, jun_null, ir_ref, ir_null, jr_rf, jun_rf, Option.toList_some, Option.toList_none, List.nil_append, List.cons_append, k1, c3, b30_71, b30_76]
        · simp only [if_neg e3, Option.bind_none, Option.getD_none]
          refine ⟨μ2, pre _ ?_, T2⟩
          rw [b30_37]
          simp only [N_lit, NEG_eq, e1, if_false, e2, gI1, gR1, pI1, pR1, rv1, aI_eq, aB_eq, aR_eq, sI_eq, sB_eq, sR_eq, Option.bind_some, Option.bind_none, if_true, if_false, true_or, or_true, false_or, or_false, true_and, and_true, false_and, and_false, decide_eq_true_eq, decide_true, decide_false, eq_self, not_true_eq_false, not_false_eq_true, jfit0, N_lit, N_add, N_mul, NEG_eq, pl_none, pl_some, rf_some, rf_none, jun_ref, jun_null, ir_ref, ir_null, jr_rf, jun_rf, Option.toList_some, Option.toList_none, List.nil_append, List.cons_append, k1, l2]
          rw [b30_61]
          simp only [N_lt hk (show t.length < 2147483648 by omega), e3, if_false, N_lit, b30_74, b30_76]
end TOP
