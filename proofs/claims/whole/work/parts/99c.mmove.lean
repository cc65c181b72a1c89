/-! THE REFERENCE's CALLS: rows moved -/
section LAY
variable {μ μ' ν : jM} {S S' : Nat → Prop} {T T' : Nat → Nat → Prop} {M g h t s n w d D i j k x y a b c : Nat} {A B C : GA} {σ : SG}
theorem mv_up {u2 : Value} : ∀ (m i : Nat) (μ1 : jM), i + m = t → t < vN μ1 (mA M g) → QS μ1 M → GQ μ1 M g → ∃ μ', jR (d + 2) 201 61 [.ref M, .int (N g), u2, .int (N t), .int (N 1), .int (N i)] [] μ1 = jR (d + 2) 201 61 [.ref M, .int (N g), u2, .int (N t), .int (N 1), .int (N t)] [] μ' ∧ FMg M g μ1 μ' ∧ QS μ' M ∧ GQ μ' M g ∧ rG μ' (mA M g) = lup (rG μ1 (mA M g)) i m := by
  intro m
  induction m with
  | zero =>
    intro i μ1 hi ht q G
    have : i = t := by omega
    subst this
    exact ⟨μ1, rfl, FMg.refl, q, G, rfl⟩
  | succ m ih =>
    intro i μ1 hi ht q G
    have g8 := G.2.2.1
    obtain ⟨μ2, c2, F2, G2, e2⟩ := r_swapRows (d := d) (i := i) (k := i + 1) q G (by omega) (by omega)
    have ev : vN μ2 (mA M g) = vN μ1 (mA M g) := by rw [← len_rG, ← len_rG, e2, len_lswap]
    obtain ⟨μ', v1, v2, v3, v4, v5⟩ := ih (i + 1) μ2 (by omega) (by rw [ev]; exact ht) (F2.qs G.1 q) G2
    refine ⟨μ', ?_, F2.trans v2, v3, v4, by rw [v5, e2]; rfl⟩
    rw [b201_61, if_neg (by rw [N_inj (by omega) (by omega)]; omega)]
    simp only [N_lit, gI13, gR13, pI13, pR13, rv13, Option.bind_some, Option.bind_none, if_true, if_false, true_or, or_true, false_or, or_false, true_and, and_true, false_and, and_false, decide_eq_true_eq, decide_true, decide_false, eq_self, not_true_eq_false, not_false_eq_true, jfit0, N_lit, N_add, N_mul, NEG_eq, pl_none, pl_some, rf_some, rf_none, jun_ref, jun_null, ir_ref, ir_null, jr_rf, jun_rf, Option.toList_some, Option.toList_none, List.nil_append, List.cons_append, q.k13, c2]
    rw [b201_79]
    simp only [N_lit, N_add]
    exact v1
theorem mv_dn {u2 : Value} : ∀ (m i : Nat) (μ1 : jM), t + m = i → i < vN μ1 (mA M g) → QS μ1 M → GQ μ1 M g → ∃ μ', jR (d + 2) 201 61 [.ref M, .int (N g), u2, .int (N t), .int NEG, .int (N i)] [] μ1 = jR (d + 2) 201 61 [.ref M, .int (N g), u2, .int (N t), .int NEG, .int (N t)] [] μ' ∧ FMg M g μ1 μ' ∧ QS μ' M ∧ GQ μ' M g ∧ rG μ' (mA M g) = ldn (rG μ1 (mA M g)) i m := by
  intro m
  induction m with
  | zero =>
    intro i μ1 hi ht q G
    have : i = t := by omega
    subst this
    exact ⟨μ1, rfl, FMg.refl, q, G, rfl⟩
  | succ m ih =>
    intro i μ1 hi ht q G
    have g8 := G.2.2.1
    obtain ⟨μ2, c2, F2, G2, e2⟩ := r_swapRows (d := d) (i := i) (k := i - 1) q G (by omega) (by omega)
    have ev : vN μ2 (mA M g) = vN μ1 (mA M g) := by rw [← len_rG, ← len_rG, e2, len_lswap]
    obtain ⟨μ', v1, v2, v3, v4, v5⟩ := ih (i - 1) μ2 (by omega) (by rw [ev]; omega) (F2.qs G.1 q) G2
    refine ⟨μ', ?_, F2.trans v2, v3, v4, by rw [v5, e2]; rfl⟩
    rw [b201_61, if_neg (by rw [N_inj (by omega) (by omega)]; omega)]
    simp only [N_lit, N_pred (show 1 ≤ i by omega), gI13, gR13, pI13, pR13, rv13, Option.bind_some, Option.bind_none, if_true, if_false, true_or, or_true, false_or, or_false, true_and, and_true, false_and, and_false, decide_eq_true_eq, decide_true, decide_false, eq_self, not_true_eq_false, not_false_eq_true, jfit0, N_lit, N_add, N_mul, NEG_eq, pl_none, pl_some, rf_some, rf_none, jun_ref, jun_null, ir_ref, ir_null, jr_rf, jun_rf, Option.toList_some, Option.toList_none, List.nil_append, List.cons_append, q.k13, c2]
    rw [b201_79]
    simp only [N_lit, N_pred (show 1 ≤ i by omega)]
    exact v1
theorem p_move (h : MR μ M σ) (g r t : Int32) : ROP M (jC (d + 3) 201 [.ref M, .int g, .int r, .int t] μ) μ (o_move σ g r t) := by
  have hq := h.1
  have bad : jR (d + 3) 201 39 [.ref M, .int g, .int r, .int t, .retAddr 0, .retAddr 0] [] μ = some (some (.int aBAD), μ) := b201_39 ..
  have st : jC (d + 3) 201 [.ref M, .int g, .int r, .int t] μ = jR (d + 3) 201 4 [.ref M, .int g, .int r, .int t, .retAddr 0, .retAddr 0] [.int (okI (ix 3 g))] μ := by
    rw [jC_run (by decide)]
    show jR (d + 3) 201 0 [.ref M, .int g, .int r, .int t, .retAddr 0, .retAddr 0] [] μ = _
    rw [b201_0, r_ver]
    rfl
  rw [st, b201_4]
  unfold o_move rix
  cases eg : ix 3 g with
  | none =>
    rw [if_pos (by rw [okI_0])]
    exact ⟨μ, bad, FR.refl, h⟩
  | some g0 =>
    obtain ⟨rfl, hg⟩ := ix_some (by decide) eg
    have hg4 : g0 < 4 := by omega
    obtain ⟨G1, G2, G3, G4, G5⟩ := h.gq hg4
    have ro := hq.ro hg4
    rw [G1.2.1] at ro
    rw [if_neg (by rw [okI_0]; simp)]
    simp only [gI13, gR13, pI13, pR13, rv13, hq.k13, hq.f.1, if_true, Option.bind_some, rf_some, ro, G4]
    rw [show (1 : Int32) = N 1 from rfl, show (0 : Int32) = N 0 from rfl, r_in (by omega)]
    show ROP M (jR (d + 3) 201 20 [.ref M, .int (N g0), .int r, .int t, .retAddr 0, .retAddr 0] [.int (okI (ix (vN μ (mA M g0)) r))] μ) μ _
    rw [b201_20]
    cases er : ix (vN μ (mA M g0)) r with
    | none =>
      rw [if_pos (by rw [okI_0])]
      exact ⟨μ, bad, FR.refl, h⟩
    | some r0 =>
      obtain ⟨rfl, hr⟩ := ix_some (by omega) er
      rw [if_neg (by rw [okI_0]; simp)]
      simp only [gI13, gR13, pI13, pR13, rv13, hq.k13, hq.f.1, if_true, Option.bind_some, rf_some, ro, Option.map_some, G4]
      rw [show (1 : Int32) = N 1 from rfl, show (0 : Int32) = N 0 from rfl, r_in (by omega)]
      show ROP M (jR (d + 3) 201 36 [.ref M, .int (N g0), .int (N r0), .int t, .retAddr 0, .retAddr 0] [.int (okI (ix (vN μ (mA M g0)) t))] μ) μ _
      rw [b201_36]
      cases et : ix (vN μ (mA M g0)) t with
      | none =>
        rw [if_pos (by rw [okI_0])]
        exact ⟨μ, bad, FR.refl, h⟩
      | some t0 =>
        obtain ⟨rfl, ht⟩ := ix_some (by omega) et
        obtain ⟨μ1, c1, F1, h1⟩ := h.chg (d := d)
        obtain ⟨H1, H2, H3, H4, H5⟩ := h1.gq hg4
        have hv1 : vN μ1 (mA M g0) = vN μ (mA M g0) := by rw [← H4, ← G4]; rfl
        have A : ∃ μ2 x, jR (d + 3) 201 46 [.ref M, .int (N g0), .int (N r0), .int (N t0), .retAddr 0, .retAddr 0] [] μ1 = jR (d + 3) 201 61 [.ref M, .int (N g0), .int (N r0), .int (N t0), .int x, .int (N t0)] [] μ2 ∧ FMg M g0 μ1 μ2 ∧ QS μ2 M ∧ GQ μ2 M g0 ∧ rG μ2 (mA M g0) = lmove (rG μ1 (mA M g0)) r0 t0 := by
          rw [b201_46]
          unfold lmove
          by_cases lt : r0 < t0
          · obtain ⟨μ2, v1, v2⟩ := mv_up (d := d + 1) (u2 := .int (N r0)) (t0 - r0) r0 μ1 (by omega) (show t0 < vN μ1 (mA M g0) by omega) h1.1 H1
            rw [if_pos (by rw [N_lt (by omega) (by omega)]; exact lt), if_pos lt, b201_56]
            exact ⟨μ2, N 1, v1, v2⟩
          · obtain ⟨μ2, v1, v2⟩ := mv_dn (d := d + 1) (u2 := .int (N r0)) (t := t0) (r0 - t0) r0 μ1 (by omega) (show r0 < vN μ1 (mA M g0) by omega) h1.1 H1
            rw [if_neg (by rw [N_lt (by omega) (by omega)]; exact lt), if_neg lt, b201_56]
            exact ⟨μ2, NEG, v1, v2⟩
        obtain ⟨μ2, x, c2, F2, q2, H6, e2⟩ := A
        have h2 := h1.grid hg4 (F2.f1 hg4) H6 e2 (fun w hw => H3 w (mem_lmove hw))
        rw [map_lmove, ← H2] at h2
        have ev : vN μ2 (mA M g0) = vN μ1 (mA M g0) := by rw [vN_m, vN_m, F2.iv (by show ¬ SMg M g0 (M + 1); unfold SMg; omega)]
        have key := ent_get (μ := μ2) (i := t0) (q2.gk hg4).1.1 (q2.gk hg4).1.2 (by omega) (by decide)
        have ek : jiv μ2 (M + 3 + g0) t0 = keyO (lmove (σ.1.1 g0) r0 t0) t0 := by
          have e : (chg σ).1.1 g0 = σ.1.1 g0 := rfl
          rw [← e, H2, ← map_lmove, ← e2]
          unfold keyO
          rw [List.getElem?_map, show (rG μ2 (mA M g0))[t0]? = some (rowAt μ2 (mA M g0) t0) from RWN_get (show t0 < vN μ2 (mA M g0) by omega)]
          rfl
        rw [if_neg (by rw [okI_0]; simp)]
        simp only [gI13, gR13, pI13, pR13, rv13, Option.bind_some, Option.bind_none, if_true, if_false, true_or, or_true, false_or, or_false, true_and, and_true, false_and, and_false, decide_eq_true_eq, decide_true, decide_false, eq_self, not_true_eq_false, not_false_eq_true, jfit0, N_lit, N_add, N_mul, NEG_eq, pl_none, pl_some, rf_some, rf_none, jun_ref, jun_null, ir_ref, ir_null, jr_rf, jun_rf, Option.toList_some, Option.toList_none, List.nil_append, List.cons_append, hq.k13, c1]
        rw [c2, b201_61, if_pos rfl]
        simp only [gI13, gR13, pI13, pR13, rv13, Option.bind_some, Option.bind_none, if_true, if_false, true_or, or_true, false_or, or_false, true_and, and_true, false_and, and_false, decide_eq_true_eq, decide_true, decide_false, eq_self, not_true_eq_false, not_false_eq_true, jfit0, N_lit, N_add, N_mul, NEG_eq, pl_none, pl_some, rf_some, rf_none, jun_ref, jun_null, ir_ref, ir_null, jr_rf, jun_rf, Option.toList_some, Option.toList_none, List.nil_append, List.cons_append, q2.k13, q2.f.2.1, (q2.gr hg4).1, key]
        exact ⟨μ2, by rw [ek], F1.fr.trans ((F2.f1 hg4).fr hg4), h2⟩
end LAY
