/-! THE CLASS's CALLS: fed, filmed, told -/
section TOP
variable {μ μ' μ'' : jM} {n w m v lo hi a b r q s D d X i k p c : Nat} {σ σ' : SG} {x y z u g : Int32} {bs : List Nat}
theorem x_tadd (tq : TQ μ q) (tb : TB μ q bs) (hl : bs.length < 40) (hc : c < 256) : ∃ μ', jC d 131 [.ref q, .int (N c)] μ = some (none, μ') ∧ TF q μ μ' ∧ TB μ' q (bs ++ [c]) := by
  obtain ⟨⟨k0, k1, k1', k2, l2, k3, l3, k4, l4⟩, r0, r3, r4, r5⟩ := id tq
  obtain ⟨b1, b2, b3⟩ := tb
  have s1 := ent_set (μ := μ) (v := N c) k1 k1' hl (by decide)
  have F : TF q μ (jsetI (jsetI μ (q + 1) bs.length (N c)) q 1 (N (bs.length + 1))) := TF.setI (TF.setI TF.refl (by omega)) (by omega)
  refine ⟨_, ?_, F, ?_⟩
  · rw [jC_run (by decide)]
    show jR d 131 0 [.ref q, .int (N c)] [] μ = _
    have n1 : jiv (jsetI μ (q + 1) bs.length (N c)) q 1 = N bs.length := by simp [iv_setI]; exact b1
    simp only [b131_0, gI10, gR10, pI10, pR10, rv10, Option.bind_some, Option.bind_none, if_true, if_false, true_or, or_true, false_or, or_false, true_and, and_true, false_and, and_false, decide_eq_true_eq, decide_true, decide_false, eq_self, not_true_eq_false, not_false_eq_true, jfit0, N_lit, N_add, N_mul, NEG_eq, pl_none, pl_some, rf_some, rf_none, jun_ref, jun_null, ir_ref, ir_null, jr_rf, jun_rf, Option.toList_some, Option.toList_none, List.nil_append, List.cons_append, jk_setI, rv_setI, k0, b1, N_lt (show bs.length < 2147483648 by omega) (show 40 < 2147483648 by decide), hl, r0, s1, n1, b131_29]
  · refine ⟨by simp [iv_setI], by simp; omega, fun i x hi => ?_⟩
    rw [List.getElem?_append] at hi
    split at hi
    · rename_i h1
      have := b3 i x hi
      have hne : i ≠ bs.length := by omega
      simp [iv_setI, hne, this]
    · rename_i h1
      have : i = bs.length := by
        have := (List.getElem?_eq_some_iff.mp hi).1
        simp at this; omega
      subst this
      rw [Nat.sub_self] at hi
      cases hi
      simp [iv_setI]; exact hc
theorem x_tape (hb : BI μ X) (h : XR μ X σ) (F : TF (X + 275) μ μ') (tb : TB μ' (X + 275) bs) : XT μ X μ' (stp σ bs) 0 0 := by
  obtain ⟨tq, -, rq⟩ := h 3 (by decide)
  refine XR.one (k := 3) hb h (by decide) (Fx.fa F hb.1) (fun a g => ?_) (fun a j g => g.elim) ⟨tq.fr F, tb, ?_⟩ (fun i hi hne h => by rcases (show i = 0 ∨ i = 1 ∨ i = 2 ∨ i = 3 ∨ i = 4 ∨ i = 5 ∨ i = 6 ∨ i = 7 ∨ i = 8 ∨ i = 9 ∨ i = 10 ∨ i = 11 ∨ i = 12 by omega) with rfl | rfl | rfl | rfl | rfl | rfl | rfl | rfl | rfl | rfl | rfl | rfl | rfl <;> first | exact absurd rfl hne | exact h)
  · have g : X + 275 ≤ a ∧ a < X + 275 + 5 := g
    show X + 275 ≤ a ∧ a < X + 285; omega
  · unfold RQ at rq ⊢
    simp only [F.kk, F.ll, F.rv]; exact rq
theorem byte_of {v : Int32} (h : ¬ v < N 0 ∧ ¬ N 255 < v) : ∃ c, c < 256 ∧ v = N c ∧ v.toNatClampNeg = c := by
  obtain ⟨c, hc, rfl⟩ := N_of h.1
  have := h.2
  rw [N_lt (by decide) hc] at this
  exact ⟨c, by omega, rfl, N_nat hc⟩
theorem t_feed {i1 v0 v1 v2 v3 v4 : Int32} (hb : BI μ X) (h : XR μ X σ) : OP (d + 2) 12 [.ref X, .int i1, .int v0, .int v1, .int v2, .int v3, .int v4] μ X (o_feed σ i1 v0 v1 v2 v3 v4) 1 5 := by
  obtain ⟨k12, r0, r1, r3, -⟩ := h.s0
  obtain ⟨tq, tb, rq⟩ := h 3 (by decide)
  unfold OP
  rw [jC_run (by decide)]
  show ∃ μ', jR (d + 2) 12 0 [.ref X, .int i1, .int v0, .int v1, .int v2, .int v3, .int v4, .retAddr 0, .retAddr 0, .retAddr 0, .retAddr 0, .retAddr 0] [] μ = _ ∧ _
  rw [b12_0]
  unfold o_feed
  by_cases e1 : i1 < N 1
  · have e1' : i1 < 1 := e1
    rw [if_pos e1', if_pos (Or.inl e1), b12_10]
    exact ⟨μ, rfl, XT.refl hb h⟩
  · have e1' : ¬ i1 < 1 := e1
    rw [if_neg e1']
    by_cases e5 : N 5 < i1
    · have e5' : 5 < i1 := e5
      rw [if_pos e5', if_pos (Or.inr e5), b12_10]
      exact ⟨μ, rfl, XT.refl hb h⟩
    · have e5' : ¬ 5 < i1 := e5
      rw [if_neg e5', if_neg (fun g => g.elim e1 e5)]
      obtain ⟨nn, hn, hn1, hn5⟩ : ∃ n, i1 = N n ∧ 1 ≤ n ∧ n ≤ 5 := by
        have h0 : ¬ i1 < N 0 := fun g => e1 (by
          rw [Int32.lt_iff_toInt_lt] at g ⊢
          rw [N_toInt (by decide)] at g ⊢
          omega)
        obtain ⟨b, hb, rfl⟩ := N_of h0
        rw [N_lt hb (by decide)] at e1
        rw [N_lt (by decide) hb] at e5
        exact ⟨b, rfl, by omega, by omega⟩
      subst hn
      -- the row of five
      have kA : jk (jnew μ 20 5 5) (jsz μ) = 20 := nk_e
      have lA : jl (jnew μ 20 5 5) (jsz μ) = 5 := nl_e
      have s0 := ent_set (μ := jnew μ 20 5 5) (v := v0) kA lA (show 0 < 5 by decide) (by decide)
      have s1 := ent_set (μ := jsetI (jnew μ 20 5 5) (jsz μ) 0 v0) (v := v1) kA lA (show 1 < 5 by decide) (by decide)
      have s2 := ent_set (μ := jsetI (jsetI (jnew μ 20 5 5) (jsz μ) 0 v0) (jsz μ) 1 v1) (v := v2) kA lA (show 2 < 5 by decide) (by decide)
      have s3 := ent_set (μ := jsetI (jsetI (jsetI (jnew μ 20 5 5) (jsz μ) 0 v0) (jsz μ) 1 v1) (jsz μ) 2 v2) (v := v3) kA lA (show 3 < 5 by decide) (by decide)
      have s4 := ent_set (μ := jsetI (jsetI (jsetI (jsetI (jnew μ 20 5 5) (jsz μ) 0 v0) (jsz μ) 1 v1) (jsz μ) 2 v2) (jsz μ) 3 v3) (v := v4) kA lA (show 4 < 5 by decide) (by decide)
      have F0 : Fa (fun _ => False) (fun _ _ => False) 1 5 μ (jsetI (jsetI (jsetI (jsetI (jsetI (jnew μ 20 5 5) (jsz μ) 0 v0) (jsz μ) 1 v1) (jsz μ) 2 v2) (jsz μ) 3 v3) (jsz μ) 4 v4) := by
        have F1 : Fx (fun a => a = jsz μ) (fun _ _ => False) (jnew μ 20 5 5) (jsetI (jsetI (jsetI (jsetI (jsetI (jnew μ 20 5 5) (jsz μ) 0 v0) (jsz μ) 1 v1) (jsz μ) 2 v2) (jsz μ) 3 v3) (jsz μ) 4 v4) := by
          refine Fx.setI (Fx.setI (Fx.setI (Fx.setI (Fx.setI Fx.refl ?_) ?_) ?_) ?_) ?_ <;> exact (rfl : jsz μ = jsz μ)
        have N0 : Fa (fun _ => False) (fun _ _ => False) 1 5 μ (jnew μ 20 5 5) := Fa.new hb.1
        exact N0.trans (F1.fa N0.jw) (fun a ha g => by have g : a = jsz μ := g; omega) (fun _ _ _ g => g)
      have T0 := Fa.xt hb h F0
      have vv : ∀ j, j < 5 → jiv (jsetI (jsetI (jsetI (jsetI (jsetI (jnew μ 20 5 5) (jsz μ) 0 v0) (jsz μ) 1 v1) (jsz μ) 2 v2) (jsz μ) 3 v3) (jsz μ) 4 v4) (jsz μ) j = if j = 0 then v0 else if j = 1 then v1 else if j = 2 then v2 else if j = 3 then v3 else v4 := fun j hj => by
        rcases (show j = 0 ∨ j = 1 ∨ j = 2 ∨ j = 3 ∨ j = 4 by omega) with rfl | rfl | rfl | rfl | rfl <;> simp [iv_setI]
      have hal := alen_of (μ := jsetI (jsetI (jsetI (jsetI (jsetI (jnew μ 20 5 5) (jsz μ) 0 v0) (jsz μ) 1 v1) (jsz μ) 2 v2) (jsz μ) 3 v3) (jsz μ) 4 v4) (a := jsz μ) (k := 20) kA (by decide)
      have kA5 : jk (jsetI (jsetI (jsetI (jsetI (jsetI (jnew μ 20 5 5) (jsz μ) 0 v0) (jsz μ) 1 v1) (jsz μ) 2 v2) (jsz μ) 3 v3) (jsz μ) 4 v4) (jsz μ) = 20 := kA
      have lA5 : jl (jsetI (jsetI (jsetI (jsetI (jsetI (jnew μ 20 5 5) (jsz μ) 0 v0) (jsz μ) 1 v1) (jsz μ) 2 v2) (jsz μ) 3 v3) (jsz μ) 4 v4) (jsz μ) = 5 := lA
      rw [lA5] at hal
      simp only [N_lit, s0, s1, s2, s3, s4, Option.bind_some, hal]
      clear s0 s1 s2 s3 s4
      have zA : jsz μ < jsz (jsetI (jsetI (jsetI (jsetI (jsetI (jnew μ 20 5 5) (jsz μ) 0 v0) (jsz μ) 1 v1) (jsz μ) 2 v2) (jsz μ) 3 v3) (jsz μ) 4 v4) := by show jsz μ < jsz μ + 1; omega
      have hzX := hb.2.2
      generalize jsetI (jsetI (jsetI (jsetI (jsetI (jnew μ 20 5 5) (jsz μ) 0 v0) (jsz μ) 1 v1) (jsz μ) 2 v2) (jsz μ) 3 v3) (jsz μ) 4 v4 = μ5 at *
      generalize jsz μ = A at *
      have h5 := T0.2.2
      obtain ⟨j12, j0, _, j3, -⟩ := h5.s0
      obtain ⟨tq5, tb5, rq5⟩ := h5 3 (by decide)
      -- one of the five looked at
      have look : ∀ (k : Nat) (v : Int32) (u : Value), k < 5 → jiv μ5 A k = v → jR (d + 2) 12 53 [.ref X, .int (N nn), .int v0, .int v1, .int v2, .int v3, .int v4, .ref A, .ref A, .int (N 5), .int (N k), u] [] μ5 = if pN (¬ v < N 0 ∧ ¬ N 255 < v) = N 0 then some (some (.int aBAD), μ5) else jR (d + 2) 12 53 [.ref X, .int (N nn), .int v0, .int v1, .int v2, .int v3, .int v4, .ref A, .ref A, .int (N 5), .int (N (k + 1)), .int v] [] μ5 := by
        intro k v u hk hv
        have g := ent_get (μ := μ5) kA5 lA5 hk (by decide)
        rw [hv] at g
        rw [b12_53 (h7 := ir_ref) (h8 := ir_ref), if_pos (by rw [N_lt (by omega) (by decide)]; exact hk)]
        simp only [N_lit, g, Option.bind_some, x_isIn, Option.toList_some, List.cons_append, List.nil_append]
        rw [b12_76 (h7 := ir_ref) (h8 := ir_ref)]
        simp only [N_lit, N_add]
      have look5 : ∀ u, jR (d + 2) 12 53 [.ref X, .int (N nn), .int v0, .int v1, .int v2, .int v3, .int v4, .ref A, .ref A, .int (N 5), .int (N 5), u] [] μ5 = jR (d + 2) 12 96 [.ref X, .int (N nn), .int v0, .int v1, .int v2, .int v3, .int v4, .ref A, .ref A, .int (N 5), .int (N 5), u] [.int (if N 40 - N σ.2.2.1.length < N nn then N 0 else N 1)] μ5 := by
        intro u
        rw [b12_53 (h7 := ir_ref) (h8 := ir_ref), if_neg (by decide)]
        have k10 := tq5.1.1
        have n1 : jiv μ5 (X + 275) 1 = N σ.2.2.1.length := tb5.1
        have c130 : jC (d + 1) 130 [.ref (X + 275), .int (N nn)] μ5 = some (some (.int (if N 40 - N σ.2.2.1.length < N nn then N 0 else N 1)), μ5) := by
          rw [jC_run (by decide)]
          show jR (d + 1) 130 0 [.ref (X + 275), .int (N nn)] [] μ5 = _
          rw [b130_0]
          simp only [gI10, gR10, pI10, pR10, rv10, aI_eq, aB_eq, aR_eq, sI_eq, sB_eq, sR_eq, Option.bind_some, Option.bind_none, if_true, if_false, true_or, or_true, false_or, or_false, true_and, and_true, false_and, and_false, decide_eq_true_eq, decide_true, decide_false, eq_self, not_true_eq_false, not_false_eq_true, jfit0, N_lit, N_add, N_mul, NEG_eq, pl_none, pl_some, rf_some, rf_none, jun_ref, jun_null, ir_ref, ir_null, jr_rf, jun_rf, Option.toList_some, Option.toList_none, List.nil_append, List.cons_append, k10, n1]
          by_cases e : N 40 - N σ.2.2.1.length < N nn
          · simp only [if_pos e, b130_16, N_lit, jrf40, if_true]
          · simp only [if_neg e, b130_16, N_lit, jrf41, if_true]
        simp only [gI12, gR12, pI12, pR12, rv12, gI10, gR10, pI10, pR10, rv10, aI_eq, aB_eq, aR_eq, sI_eq, sB_eq, sR_eq, Option.bind_some, Option.bind_none, if_true, if_false, true_or, or_true, false_or, or_false, true_and, and_true, false_and, and_false, decide_eq_true_eq, decide_true, decide_false, eq_self, not_true_eq_false, not_false_eq_true, jfit0, N_lit, N_add, N_mul, NEG_eq, pl_none, pl_some, rf_some, rf_none, jun_ref, jun_null, ir_ref, ir_null, jr_rf, jun_rf, Option.toList_some, Option.toList_none, List.nil_append, List.cons_append, j12, j3, k10, c130]
      by_cases hall : ∀ v, v ∈ [v0, v1, v2, v3, v4] → ¬ v < N 0 ∧ ¬ N 255 < v
      · rw [if_pos hall]
        have a0 := hall v0 (by simp)
        have a1 := hall v1 (by simp)
        have a2 := hall v2 (by simp)
        have a3 := hall v3 (by simp)
        have a4 := hall v4 (by simp)
        rw [look 0 v0 _ (by decide) (vv 0 (by decide)), pN_pos a0, if_neg (by decide), look 1 v1 _ (by decide) (vv 1 (by decide)), pN_pos a1, if_neg (by decide), look 2 v2 _ (by decide) (vv 2 (by decide)), pN_pos a2, if_neg (by decide), look 3 v3 _ (by decide) (vv 3 (by decide)), pN_pos a3, if_neg (by decide), look 4 v4 _ (by decide) (vv 4 (by decide)), pN_pos a4, if_neg (by decide), look5]
        rw [b12_96 (h7 := ir_ref)]
        have l40 := tb.2.1
        rw [N_sub (show σ.2.2.1.length ≤ 40 by omega)]
        by_cases efull : N (40 - σ.2.2.1.length) < N nn
        · simp only [if_pos efull, N_lit, if_true]
          exact ⟨μ5, rfl, T0⟩
        · simp only [if_neg efull, N_lit, n10, if_false]
          rw [N_lt (by omega) (by omega)] at efull
          rw [N_nat (show nn < 2147483648 by omega)]
          -- the bytes come behind the tape
          have loop : ∀ (k i : Nat) (μ6 : jM), i + k = nn → XT μ5 X μ6 (stp σ (σ.2.2.1 ++ ([v0, v1, v2, v3, v4].take i).map Int32.toNatClampNeg)) 0 0 → ∃ μ', jR (d + 2) 12 105 [.ref X, .int (N nn), .int v0, .int v1, .int v2, .int v3, .int v4, .ref A, .int (N i), .int (N 5), .int (N 5), .int v4] [] μ6 = some (some (.int (N (σ.2.2.1 ++ ([v0, v1, v2, v3, v4].take nn).map Int32.toNatClampNeg).length)), μ') ∧ XT μ5 X μ' (stp σ (σ.2.2.1 ++ ([v0, v1, v2, v3, v4].take nn).map Int32.toNatClampNeg)) 0 0 := by
            intro k
            induction k with
            | zero =>
              intro i μ6 hi T6
              rw [Nat.add_zero] at hi
              subst hi
              have h6 := T6.2.2
              obtain ⟨i12, i0, _, i3, -⟩ := h6.s0
              obtain ⟨tq6, tb6, -⟩ := h6 3 (by decide)
              have k10 := tq6.1.1
              have n6 : jiv μ6 (X + 275) 1 = N (σ.2.2.1 ++ ([v0, v1, v2, v3, v4].take i).map Int32.toNatClampNeg).length := tb6.1
              refine ⟨μ6, ?_, T6⟩
              rw [b12_105 (h7 := ir_ref), if_neg (by rw [N_lt (by omega) (by omega)]; omega)]
              simp only [gI12, gR12, pI12, pR12, rv12, gI10, gR10, pI10, pR10, rv10, aI_eq, aB_eq, aR_eq, sI_eq, sB_eq, sR_eq, Option.bind_some, Option.bind_none, if_true, if_false, true_or, or_true, false_or, or_false, true_and, and_true, false_and, and_false, decide_eq_true_eq, decide_true, decide_false, eq_self, not_true_eq_false, not_false_eq_true, jfit0, N_lit, N_add, N_mul, NEG_eq, pl_none, pl_some, rf_some, rf_none, jun_ref, jun_null, ir_ref, ir_null, jr_rf, jun_rf, Option.toList_some, Option.toList_none, List.nil_append, List.cons_append, i12, i3, k10, n6]
            | succ k ih =>
              intro i μ6 hi T6
              have h6 := T6.2.2
              obtain ⟨i12, i0, _, i3, -⟩ := h6.s0
              obtain ⟨tq6, tb6, -⟩ := h6 3 (by decide)
              have k10 := tq6.1.1
              have tb6 : TB μ6 (X + 275) (σ.2.2.1 ++ ([v0, v1, v2, v3, v4].take i).map Int32.toNatClampNeg) := tb6
              have hi5 : i < 5 := by omega
              have hlen : (σ.2.2.1 ++ ([v0, v1, v2, v3, v4].take i).map Int32.toNatClampNeg).length = σ.2.2.1.length + i := by
                rw [List.length_append, List.length_map, List.length_take]
                show σ.2.2.1.length + min i 5 = _; omega
              have kA6 : jk μ6 A = 20 := by rw [T6.1.kk zA]; exact kA5
              have lA6 : jl μ6 A = 5 := by rw [T6.1.ll zA]; exact lA5
              have vA6 : jiv μ6 A = jiv μ5 A := T6.1.iv zA (by show ¬ (X ≤ A ∧ A < X + 342); omega)
              obtain ⟨v, hv, hvm⟩ : ∃ v, [v0, v1, v2, v3, v4][i]? = some v ∧ jiv μ5 A i = v := by
                refine ⟨_, ?_, vv i hi5⟩
                rcases (show i = 0 ∨ i = 1 ∨ i = 2 ∨ i = 3 ∨ i = 4 by omega) with rfl | rfl | rfl | rfl | rfl <;> rfl
              obtain ⟨c, hc, hvc, hvn⟩ := byte_of (hall v (List.mem_of_getElem? hv))
              have g := ent_get (μ := μ6) kA6 lA6 hi5 (by decide)
              rw [vA6, hvm, hvc] at g
              obtain ⟨μ7, c7, F7, tb7⟩ := x_tadd (d := d + 1) (c := c) tq6 tb6 (by rw [hlen]; omega) hc
              have T7 := x_tape T6.2.1 h6 F7 tb7
              have etake : σ.2.2.1 ++ ([v0, v1, v2, v3, v4].take i).map Int32.toNatClampNeg ++ [c] = σ.2.2.1 ++ ([v0, v1, v2, v3, v4].take (i + 1)).map Int32.toNatClampNeg := by
                rw [List.take_succ, hv]
                simp [hvn]
              rw [etake] at T7
              obtain ⟨μ', q1, q2⟩ := ih (i + 1) μ7 (by omega) (T6.trans T7)
              refine ⟨μ', ?_, q2⟩
              rw [b12_105 (h7 := ir_ref), if_pos (by rw [N_lt (by omega) (by omega)]; omega)]
              simp only [gI12, gR12, pI12, pR12, rv12, gI10, gR10, pI10, pR10, rv10, Option.bind_some, Option.bind_none, if_true, if_false, true_or, or_true, false_or, or_false, true_and, and_true, false_and, and_false, decide_eq_true_eq, decide_true, decide_false, eq_self, not_true_eq_false, not_false_eq_true, jfit0, N_lit, N_add, N_mul, NEG_eq, pl_none, pl_some, rf_some, rf_none, jun_ref, jun_null, ir_ref, ir_null, jr_rf, jun_rf, Option.toList_some, Option.toList_none, List.nil_append, List.cons_append, i12, i3, g, k10, c7]
              rw [b12_123 (h7 := ir_ref)]
              simp only [N_lit, N_add]
              exact q1
          obtain ⟨μ', q1, q2⟩ := loop nn 0 μ5 (by omega) (by
            have : σ.2.2.1 ++ ([v0, v1, v2, v3, v4].take 0).map Int32.toNatClampNeg = σ.2.2.1 := by simp
            rw [this]
            exact XT.refl T0.2.1 h5)
          exact ⟨μ', q1, (T0.trans q2).up (by omega) (by omega)⟩
      · rw [if_neg hall]
        refine ⟨μ5, ?_, T0⟩
        by_cases a0 : ¬ v0 < N 0 ∧ ¬ N 255 < v0
        · rw [look 0 v0 _ (by decide) (vv 0 (by decide)), pN_pos a0, if_neg (by decide)]
          by_cases a1 : ¬ v1 < N 0 ∧ ¬ N 255 < v1
          · rw [look 1 v1 _ (by decide) (vv 1 (by decide)), pN_pos a1, if_neg (by decide)]
            by_cases a2 : ¬ v2 < N 0 ∧ ¬ N 255 < v2
            · rw [look 2 v2 _ (by decide) (vv 2 (by decide)), pN_pos a2, if_neg (by decide)]
              by_cases a3 : ¬ v3 < N 0 ∧ ¬ N 255 < v3
              · rw [look 3 v3 _ (by decide) (vv 3 (by decide)), pN_pos a3, if_neg (by decide)]
                by_cases a4 : ¬ v4 < N 0 ∧ ¬ N 255 < v4
                · exfalso
                  refine hall (fun v hv => ?_)
                  simp only [List.mem_cons, List.not_mem_nil, or_false] at hv
                  rcases hv with rfl | rfl | rfl | rfl | rfl
                  · exact a0
                  · exact a1
                  · exact a2
                  · exact a3
                  · exact a4
                · rw [look 4 v4 _ (by decide) (vv 4 (by decide)), pN_neg a4, if_pos rfl]
              · rw [look 3 v3 _ (by decide) (vv 3 (by decide)), pN_neg a3, if_pos rfl]
            · rw [look 2 v2 _ (by decide) (vv 2 (by decide)), pN_neg a2, if_pos rfl]
          · rw [look 1 v1 _ (by decide) (vv 1 (by decide)), pN_neg a1, if_pos rfl]
        · rw [look 0 v0 _ (by decide) (vv 0 (by decide)), pN_neg a0, if_pos rfl]
theorem t_film (hb : BI μ X) (h : XR μ X σ) (hw : ∀ i, i < 4 → KZ (σ.1.1 i)) : OP (d + 104) 51 [.ref X, .int x, .int y, .int z] μ X (o_film σ x y z) 0 0 := by
  obtain ⟨k12, r0, r1, r3, r4, r5, r6, r8, r9, r10, r11, r12, r14⟩ := h.s0
  unfold OP
  rw [jC_run (by decide)]
  show ∃ μ', jR (d + 104) 51 0 [.ref X, .int x, .int y, .int z, .retAddr 0, .retAddr 0] [] μ = _ ∧ _
  rw [b51_0]
  simp only [x_isSheet, aI_eq, aB_eq, aR_eq, sI_eq, sB_eq, sR_eq, Option.bind_some, Option.bind_none, if_true, if_false, true_or, or_true, false_or, or_false, true_and, and_true, false_and, and_false, decide_eq_true_eq, decide_true, decide_false, eq_self, not_true_eq_false, not_false_eq_true, jfit0, N_lit, N_add, N_mul, NEG_eq, pl_none, pl_some, rf_some, rf_none, jun_ref, jun_null, ir_ref, ir_null, jr_rf, jun_rf, Option.toList_some, Option.toList_none, List.nil_append, List.cons_append]
  rw [b51_4]
  unfold o_film
  cases e : ix 4 x with
  | none =>
    refine ⟨μ, ?_, XT.refl hb h⟩
    simp only [Option.isSome_none, bN_false, N_lit, if_true, b51_21]
  | some s =>
    obtain ⟨rfl, hs⟩ := ix_some (by decide) e
    simp only [Option.isSome_some, bN_true, N_lit, n10, if_false, x_isGrid, aI_eq, aB_eq, aR_eq, sI_eq, sB_eq, sR_eq, Option.bind_some, Option.bind_none, if_true, if_false, true_or, or_true, false_or, or_false, true_and, and_true, false_and, and_false, decide_eq_true_eq, decide_true, decide_false, eq_self, not_true_eq_false, not_false_eq_true, jfit0, N_lit, N_add, N_mul, NEG_eq, pl_none, pl_some, rf_some, rf_none, jun_ref, jun_null, ir_ref, ir_null, jr_rf, jun_rf, Option.toList_some, Option.toList_none, List.nil_append, List.cons_append]
    rw [b51_11]
    cases e2 : ix 4 y with
    | none =>
      refine ⟨μ, ?_, XT.refl hb h⟩
      simp only [Option.isSome_none, bN_false, N_lit, if_true, b51_21]
    | some g =>
      obtain ⟨rfl, hg⟩ := ix_some (by decide) e2
      simp only [Option.isSome_some, bN_true, N_lit, n10, if_false, x_isColumn, aI_eq, aB_eq, aR_eq, sI_eq, sB_eq, sR_eq, Option.bind_some, Option.bind_none, if_true, if_false, true_or, or_true, false_or, or_false, true_and, and_true, false_and, and_false, decide_eq_true_eq, decide_true, decide_false, eq_self, not_true_eq_false, not_false_eq_true, jfit0, N_lit, N_add, N_mul, NEG_eq, pl_none, pl_some, rf_some, rf_none, jun_ref, jun_null, ir_ref, ir_null, jr_rf, jun_rf, Option.toList_some, Option.toList_none, List.nil_append, List.cons_append]
      rw [b51_18]
      cases e3 : ix 3 z with
      | none =>
        refine ⟨μ, ?_, XT.refl hb h⟩
        simp only [Option.isSome_none, bN_false, N_lit, if_true, b51_21]
      | some c =>
        obtain ⟨rfl, hc⟩ := ix_some (by decide) e3
        have hl := h.l8 hg
        obtain ⟨k9, -, -⟩ := h.sk hs
        obtain ⟨μ1, c1, F1, v1, v2, v3⟩ := x_shBecome (d := d + 102) (h.sh hs).1 (show (σ.1.1 g).length ≤ 40 by omega) (t := N 1) (Or.inr (Or.inr rfl))
        have T1 := x_sheet1 (v := (N 1, List.replicate (σ.1.1 g).length (N 0))) hb h hs F1 v1 v3 v2
        -- the items from place i on
        have loop : ∀ (k i : Nat) (μ2 : jM), i + k = (σ.1.1 g).length → XT μ X μ2 (ssh σ s (N 1, (List.range (σ.1.1 g).length).map fun j => if j < i then (vlC (σ.1.1 g) j c).2 else N 0)) 0 0 → ∃ μ', jR (d + 104) 51 52 [.ref X, .int (N s), .int (N g), .int (N c), .ref (gA X g), .int (N i)] [] μ2 = some (some (.int (N (σ.1.1 g).length)), μ') ∧ XT μ X μ' (ssh σ s (N 1, (List.range (σ.1.1 g).length).map fun j => (vlC (σ.1.1 g) j c).2)) 0 0 := by
          intro k
          induction k with
          | zero =>
            intro i μ2 hi T2
            rw [Nat.add_zero] at hi
            subst hi
            have h2 := T2.2.2
            have n2 : jiv μ2 (gA X g) 0 = N (σ.1.1 g).length := h2.nn hg
            refine ⟨μ2, ?_, ?_⟩
            · rw [b51_52 (h4 := ir_ref)]
              simp only [gI6, gR6, pI6, pR6, rv6, aI_eq, aB_eq, aR_eq, sI_eq, sB_eq, sR_eq, Option.bind_some, Option.bind_none, if_true, if_false, true_or, or_true, false_or, or_false, true_and, and_true, false_and, and_false, decide_eq_true_eq, decide_true, decide_false, eq_self, not_true_eq_false, not_false_eq_true, jfit0, N_lit, N_add, N_mul, NEG_eq, pl_none, pl_some, rf_some, rf_none, jun_ref, jun_null, ir_ref, ir_null, jr_rf, jun_rf, Option.toList_some, Option.toList_none, List.nil_append, List.cons_append, h2.k6 hg, n2, N_lt (show (σ.1.1 g).length < 2147483648 by omega) (show (σ.1.1 g).length < 2147483648 by omega), Nat.lt_irrefl]
            · have : ((List.range (σ.1.1 g).length).map fun j => if j < (σ.1.1 g).length then (vlC (σ.1.1 g) j c).2 else N 0) = (List.range (σ.1.1 g).length).map fun j => (vlC (σ.1.1 g) j c).2 := by
                refine List.map_congr_left fun j hj => ?_
                rw [if_pos (List.mem_range.mp hj)]
              rw [this] at T2
              exact T2
          | succ k ih =>
            intro i μ2 hi T2
            have hil : i < (σ.1.1 g).length := by omega
            have h2 := T2.2.2
            obtain ⟨i12, i0, _, _, _, i5, _, _, _, _, _, _, i14⟩ := h2.s0
            have n2 : jiv μ2 (gA X g) 0 = N (σ.1.1 g).length := h2.nn hg
            obtain ⟨j9, -, -⟩ := h2.sk hs
            obtain ⟨μ3, c3, T3, w3, F3⟩ := t_valueOf (d := d + 1) (G := σ.1.1 g) T2.2.1 h2 (h2.gg hg).1 (h2.gg hg).2 (hw g hg) (by unfold gA; omega) hil hc
            have h3 := T3.2.2
            obtain ⟨o9, ovs, -⟩ := h3.sk hs
            have up : ∀ v : Int32 × List Int32, (ssh σ s v).2.2.2.2.2 s = v := fun v => by
              show updf _ s v s = v
              unfold updf
              rw [if_pos rfl]
            have olen : vS μ3 (X + 334 + 2 * s) = (σ.1.1 g).length := by
              rw [ovs, up]; simp
            obtain ⟨μ4, c4, F4, w4, w5, w6⟩ := x_shSet (d := d + 102) (v := (vlC (σ.1.1 g) i c).2) (h3.sh hs).1 (show i < vS μ3 (X + 334 + 2 * s) by rw [olen]; exact hil)
            obtain ⟨-, sv1, sv2⟩ := h3.sh hs
            rw [up] at sv1 sv2
            rw [sv1, sv2] at w5
            have T4 := x_sheet1 (v := (N 1, (List.range (σ.1.1 g).length).map fun j => if j < i + 1 then (vlC (σ.1.1 g) j c).2 else N 0)) T3.2.1 h3 hs F4 w4 (w6.trans sv1) (by
              rw [w5]
              refine List.ext_getElem? fun j => ?_
              rw [List.getElem?_set]
              by_cases ej : i = j
              · subst ej
                rw [if_pos rfl, if_pos (by simp; exact hil), List.getElem?_map, List.getElem?_range hil]
                show some (shv (N 1) _) = some (if i < i + 1 then _ else _)
                rw [if_pos (Nat.lt_succ_self i)]
                unfold shv
                rw [if_neg (by decide)]
              · rw [if_neg ej, List.getElem?_map, List.getElem?_map]
                cases ex : (List.range (σ.1.1 g).length)[j]? with
                | none => rfl
                | some jj =>
                  have hjj : jj = j := by
                    have := List.getElem?_eq_some_iff.mp ex
                    obtain ⟨q1, q2⟩ := this
                    rw [List.getElem_range] at q2
                    exact q2.symm
                  subst hjj
                  show some (if jj < i then _ else _) = some (if jj < i + 1 then _ else _)
                  by_cases h1 : jj < i
                  · rw [if_pos h1, if_pos (by omega)]
                  · rw [if_neg h1, if_neg (by omega)])
            have T5 : XT μ X μ4 (ssh σ s (N 1, (List.range (σ.1.1 g).length).map fun j => if j < i + 1 then (vlC (σ.1.1 g) j c).2 else N 0)) 0 0 := by
              obtain ⟨t1, t2, t3⟩ := (T2.trans T3).trans T4
              refine ⟨t1, t2, fun q hq => ?_⟩
              have := t3 q hq
              rcases (show q = 0 ∨ q = 1 ∨ q = 2 ∨ q = 3 ∨ q = 4 ∨ q = 5 ∨ q = 6 ∨ q = 7 ∨ q = 8 ∨ q = 9 ∨ q = 10 ∨ q = 11 ∨ q = 12 by omega) with rfl | rfl | rfl | rfl | rfl | rfl | rfl | rfl | rfl | rfl | rfl | rfl | rfl
              all_goals first
                | exact this
                | (intro k hk
                   have := this k hk
                   have e : ∀ v v' : Int32 × List Int32, (ssh (ssh σ s v) s v').2.2.2.2.2 k = (ssh σ s v').2.2.2.2.2 k := fun v v' => by
                     show updf (updf _ s v) s v' k = updf _ s v' k
                     unfold updf
                     by_cases ek : k = s
                     · rw [if_pos ek, if_pos ek]
                     · rw [if_neg ek, if_neg ek, if_neg ek]
                   rw [e] at this
                   exact this)
            obtain ⟨μ', q1, q2⟩ := ih (i + 1) μ4 (by omega) T5
            refine ⟨μ', ?_, q2⟩
            rw [b51_52 (h4 := ir_ref)]
            simp only [gI6, gR6, pI6, pR6, rv6, gI12, gR12, pI12, pR12, rv12, gI2, gR2, pI2, pR2, rv2, Option.bind_some, Option.bind_none, if_true, if_false, true_or, or_true, false_or, or_false, true_and, and_true, false_and, and_false, decide_eq_true_eq, decide_true, decide_false, eq_self, not_true_eq_false, not_false_eq_true, jfit0, N_lit, N_add, N_mul, NEG_eq, pl_none, pl_some, rf_some, rf_none, jun_ref, jun_null, ir_ref, ir_null, jr_rf, jun_rf, Option.toList_some, Option.toList_none, List.nil_append, List.cons_append, h2.k6 hg, n2, N_lt (show i < 2147483648 by omega) (show (σ.1.1 g).length < 2147483648 by omega), hil, i12, i14, i5, h2.sa hs, h2.k2, c3]
            rw [b51_82 (h4 := ir_ref) (hs0 := ir_ref)]
            simp only [gI9, gR9, pI9, pR9, rv9, Option.bind_some, Option.bind_none, if_true, if_false, true_or, or_true, false_or, or_false, true_and, and_true, false_and, and_false, decide_eq_true_eq, decide_true, decide_false, eq_self, not_true_eq_false, not_false_eq_true, jfit0, N_lit, N_add, N_mul, NEG_eq, pl_none, pl_some, rf_some, rf_none, jun_ref, jun_null, ir_ref, ir_null, jr_rf, jun_rf, Option.toList_some, Option.toList_none, List.nil_append, List.cons_append, o9, c4]
            rw [b51_85 (h4 := ir_ref)]
            simp only [N_lit, N_add]
            exact q1
        obtain ⟨μ', q1, q2⟩ := loop (σ.1.1 g).length 0 μ1 (by omega) (by
          have : ((List.range (σ.1.1 g).length).map fun j => if j < 0 then (vlC (σ.1.1 g) j c).2 else N 0) = List.replicate (σ.1.1 g).length (N 0) := by
            refine List.ext_getElem? fun j => ?_
            by_cases hj : j < (σ.1.1 g).length
            · rw [List.getElem?_map, List.getElem?_range hj, List.getElem?_replicate, if_pos hj]; rfl
            · rw [List.getElem?_eq_none (by simp; omega), List.getElem?_eq_none (by simp; omega)]
          rw [this]; exact T1)
        refine ⟨μ', ?_, q2⟩
        simp only [Option.isSome_some, bN_true, N_lit, n10, if_false, gI12, gR12, pI12, pR12, rv12, gI3, gR3, pI3, pR3, rv3, aI_eq, aB_eq, aR_eq, sI_eq, sB_eq, sR_eq, Option.bind_some, Option.bind_none, if_true, if_false, true_or, or_true, false_or, or_false, true_and, and_true, false_and, and_false, decide_eq_true_eq, decide_true, decide_false, eq_self, not_true_eq_false, not_false_eq_true, jfit0, N_lit, N_add, N_mul, NEG_eq, pl_none, pl_some, rf_some, rf_none, jun_ref, jun_null, ir_ref, ir_null, jr_rf, jun_rf, Option.toList_some, Option.toList_none, List.nil_append, List.cons_append, k12, r0, h.k3, t_gridAt h hg]
        rw [b51_32 (hs0 := ir_ref)]
        simp only [gI12, gR12, pI12, pR12, rv12, gI6, gR6, pI6, pR6, rv6, gI9, gR9, pI9, pR9, rv9, Option.bind_some, Option.bind_none, if_true, if_false, true_or, or_true, false_or, or_false, true_and, and_true, false_and, and_false, decide_eq_true_eq, decide_true, decide_false, eq_self, not_true_eq_false, not_false_eq_true, jfit0, N_lit, N_add, N_mul, NEG_eq, pl_none, pl_some, rf_some, rf_none, jun_ref, jun_null, ir_ref, ir_null, jr_rf, jun_rf, Option.toList_some, Option.toList_none, List.nil_append, List.cons_append, k12, r14, h.sa hs, h.k6 hg, h.nn hg, k9, c1]
        rw [b51_49 (h4 := ir_ref)]
        simp only [N_lit]
        exact q1
end TOP
