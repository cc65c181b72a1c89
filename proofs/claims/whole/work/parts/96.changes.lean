section LAY
variable {μ μ' ν : jM} {S S' : Nat → Prop} {T T' : Nat → Nat → Prop} {M g h t s n w d D i j k x y a b c : Nat} {A B C : GA}
theorem F3s.main (F : F3s M s μ μ') (hs : s < 6) (hg : g < 4) (hG : GW μ (mA M g)) : GW μ' (mA M g) ∧ rG μ' (mA M g) = rG μ (mA M g) := (F.fu hs).main hg hG
theorem ch_lays {k : Nat} (hk : k < 6) : ∀ (m g : Nat) (μ1 : jM), g + m = 3 → F3s M k μ μ1 → QS μ1 M → jiv μ1 M 14 = N k → (∀ h, h < 3 → GW μ1 (mA M h) ∧ rG μ1 (mA M h) = rG μ (mA M h)) → A3 μ1 M k → (∀ h, h < g → rG μ1 (aA M k h) = rG μ (mA M h)) → ∃ μ', jR (d + 2) 189 43 [.ref M, .int (N g)] [] μ1 = jR (d + 2) 189 43 [.ref M, .int (N 3)] [] μ' ∧ F3s M k μ μ' ∧ QS μ' M ∧ jiv μ' M 14 = N k ∧ A3 μ' M k ∧ ∀ h, h < 3 → rG μ' (aA M k h) = rG μ (mA M h) := by
  intro m
  induction m with
  | zero =>
    intro g μ1 hg F q h14 hm a3 hv
    have : g = 3 := by omega
    subst this
    exact ⟨μ1, rfl, F, q, h14, a3, hv⟩
  | succ m ih =>
    intro g μ1 hg F q h14 hm a3 hv
    have hg4 : g < 4 := by omega
    obtain ⟨o1, o2⟩ := hm g (by omega)
    have F1 : Fx (SA (aA M k g)) (fun a _ => a = M + 330 + 5 * k + g) μ1 (cpF (gcI μ1 (mA M g) (aA M k g)) (mA M g) (aA M k g) 24) := cpF_fr
    obtain ⟨e1, e2, e3⟩ := cpF_rd (aA_ok (M := M) hg4 (show k < 14 by omega)) (ma_dis (M := M) hg4 hg4 (show k < 14 by omega)).1 o1 (a3 g hg4).2.2
    have st := r_lay (d := d) q (show k < 14 by omega) hg4 o1.2.2
    generalize cpF (gcI μ1 (mA M g) (aA M k g)) (mA M g) (aA M k g) 24 = μ2 at *
    have e3 : ∀ j, j ≠ g → jiv μ2 (M + 30 + k) j = jiv μ1 (M + 30 + k) j := e3
    have f2 := cpF_f3 (show k < 14 by omega) (show g < 3 by omega) F1 e3
    obtain ⟨μ', v1, v2⟩ := ih (g + 1) μ2 (by omega) (F.trans f2) (f2.qs (by omega) q) (by rw [f2.iM (by omega)]; exact h14) (fun h hh => by
      obtain ⟨z1, z2⟩ := hm h hh
      obtain ⟨y1, y2⟩ := f2.main hk (by omega) z1
      exact ⟨y1, y2.trans z2⟩) (fun h hh => by
      by_cases e : h = g
      · subst e; exact e1
      · exact (cpF_side (by omega) hg4 hh e F1 e3 (a3 h hh)).1) (fun h hh => by
      by_cases e : h = g
      · subst e; rw [e2]; exact o2
      · rw [(cpF_side (by omega) hg4 (by omega) e F1 e3 (a3 h (by omega))).2]
        exact hv h (by omega))
    refine ⟨μ', ?_, v2⟩
    rw [b189_43, if_pos (by show N g < N 3; rw [N_lt (by omega) (by decide)]; omega)]
    simp only [gI13, gR13, pI13, pR13, rv13, Option.bind_some, Option.bind_none, if_true, if_false, true_or, or_true, false_or, or_false, true_and, and_true, false_and, and_false, decide_eq_true_eq, decide_true, decide_false, eq_self, not_true_eq_false, not_false_eq_true, jfit0, N_lit, N_add, N_mul, NEG_eq, pl_none, pl_some, rf_some, rf_none, jun_ref, jun_null, ir_ref, ir_null, jr_rf, jun_rf, Option.toList_some, Option.toList_none, List.nil_append, List.cons_append, q.k13, h14, st]
    rw [b189_57]
    simp only [N_lit, N_add]
    exact v1
theorem aA_setM {v : Int32} : rG (jsetI μ M j v) (aA M t g) = rG μ (aA M t g) ∧ (GW μ (aA M t g) → GW (jsetI μ M j v) (aA M t g)) := by
  have n : ∀ a, a ≠ M → jiv (jsetI μ M j v) a = jiv μ a := fun a ha => iv_setIn ha
  have e0 : jiv (jsetI μ M j v) ((aA M t g).1 0) (aA M t g).2 = jiv μ ((aA M t g).1 0) (aA M t g).2 := congrFun (n (M + 30 + t) (by omega)) _
  obtain ⟨z1, z2⟩ := rG_same (μ := μ) (μ' := jsetI μ M j v) (A := aA M t g) e0 (n _ (show M + 46 + 5 * t + g ≠ M by omega)) (n _ (show M + 117 + 5 * t + g ≠ M by omega)) (n _ (show M + 188 + 5 * t + g ≠ M by omega)) rfl (n _ (show M + 259 + 5 * t + g ≠ M by omega))
  exact ⟨z1, fun h => ⟨by rw [z2, e0]; exact h.1, by rw [z2]; exact h.2.1, h.2.2⟩⟩
theorem r_stirs (hk : jk μ M = 13) : jC d 163 [.ref M] μ = some (none, jsetI (jsetI μ M 35 (N 0)) M 36 (N 0)) := by
  rw [jC_run (by decide)]
  show jR d 163 0 [.ref M] [] μ = _
  rw [b163_0]
  simp only [gI13, gR13, pI13, pR13, rv13, Option.bind_some, Option.bind_none, if_true, if_false, true_or, or_true, false_or, or_false, true_and, and_true, false_and, and_false, decide_eq_true_eq, decide_true, decide_false, eq_self, not_true_eq_false, not_false_eq_true, jfit0, N_lit, N_add, N_mul, NEG_eq, pl_none, pl_some, rf_some, rf_none, jun_ref, jun_null, ir_ref, ir_null, jr_rf, jun_rf, Option.toList_some, Option.toList_none, List.nil_append, List.cons_append, jk_setI, hk, jfit2_0]
theorem r_changes {k : Nat} (hq : QS μ M) (h14 : jiv μ M 14 = N k) (hk : k ≤ 6) (hA : AA μ M) (hm : ∀ g, g < 3 → GW μ (mA M g)) : ∃ μ', jC (d + 2) 189 [.ref M] μ = some (none, μ') ∧ FU M μ μ' ∧ AA μ' M ∧ jiv μ' M 14 = N (if k = 6 then 6 else k + 1) ∧ jiv μ' M 35 = N 0 ∧ jiv μ' M 36 = N 0 ∧ (∀ g, g < 3 → rG μ' (aA M (if k = 6 then 5 else k) g) = rG μ (mA M g)) ∧ ∀ t, t < (if k = 6 then 5 else k) → ∀ g, g < 3 → rG μ' (aA M t g) = rG μ (aA M (if k = 6 then t + 1 else t) g) := by
  have k13 := hq.k13
  -- first a place is made
  have A : ∃ μ1 k1, k1 = (if k = 6 then 5 else k) ∧ k1 < 6 ∧ jC (d + 2) 189 [.ref M] μ = jR (d + 2) 189 43 [.ref M, .int (N 0)] [] μ1 ∧ FU M μ μ1 ∧ QS μ1 M ∧ AA μ1 M ∧ jiv μ1 M 14 = N k1 ∧ ∀ t, t < k1 → ∀ g, g < 3 → rG μ1 (aA M t g) = rG μ (aA M (if k = 6 then t + 1 else t) g) := by
    by_cases e : k = 6
    · obtain ⟨μ1, c1, f1, q1, a1, e1, r1⟩ := ch_moves (d := d) hq hA 5 1 μ (by decide) (by decide) FU.refl hq hA rfl (fun t ht g hg => by rw [if_neg (by omega)])
      have F2 : FU M μ1 (jsetI μ1 M 14 (N 5)) := ⟨Fx.setI Fx.refl (Or.inl rfl), fun j h1 _ _ => by
        simp only [iv_setI, true_and]
        rw [if_neg h1]⟩
      refine ⟨jsetI μ1 M 14 (N 5), 5, by rw [if_pos e], by decide, ?_, f1.trans F2, F2.qs q1, fun t ht g hg => ?_, by simp [iv_setI], fun t ht g hg => ?_⟩
      · rw [jC_run (by decide)]
        show jR (d + 2) 189 0 [.ref M, .retAddr 0] [] μ = _
        rw [b189_0]
        simp only [gI13, gR13, pI13, pR13, rv13, Option.bind_some, Option.bind_none, if_true, if_false, true_or, or_true, false_or, or_false, true_and, and_true, false_and, and_false, decide_eq_true_eq, decide_true, decide_false, eq_self, not_true_eq_false, not_false_eq_true, jfit0, N_lit, N_add, N_mul, NEG_eq, pl_none, pl_some, rf_some, rf_none, jun_ref, jun_null, ir_ref, ir_null, jr_rf, jun_rf, Option.toList_some, Option.toList_none, List.nil_append, List.cons_append, k13, h14, e]
        rw [c1, b189_11, if_neg (by decide)]
        have e6 : jiv μ1 M 14 = N 6 := by rw [e1, h14, e]
        simp only [gI13, gR13, pI13, pR13, rv13, Option.bind_some, Option.bind_none, if_true, if_false, true_or, or_true, false_or, or_false, true_and, and_true, false_and, and_false, decide_eq_true_eq, decide_true, decide_false, eq_self, not_true_eq_false, not_false_eq_true, jfit0, N_lit, N_add, N_mul, NEG_eq, pl_none, pl_some, rf_some, rf_none, jun_ref, jun_null, ir_ref, ir_null, jr_rf, jun_rf, Option.toList_some, Option.toList_none, List.nil_append, List.cons_append, q1.k13, e6]
        rw [b189_41]
        simp only [N_lit]
        rfl
      · exact aA_setM.2 (a1 t ht g hg)
      · rw [if_pos e]
        have := r1 t (by omega) g hg
        rw [if_pos ht] at this
        exact aA_setM.1.trans this
    · refine ⟨μ, k, by rw [if_neg e], by omega, ?_, FU.refl, hq, hA, h14, fun t ht g hg => by rw [if_neg e]⟩
      rw [jC_run (by decide)]
      show jR (d + 2) 189 0 [.ref M, .retAddr 0] [] μ = _
      rw [b189_0]
      simp only [gI13, gR13, pI13, pR13, rv13, k13, if_true, Option.bind_some]
      rw [if_neg (by rw [h14]; show ¬ N k = N 6; rw [N_inj (by omega) (by decide)]; exact e), b189_41]
      simp only [N_lit]
  obtain ⟨μ1, k1, ek, hk6, c1, f1, q1, a1, h1, r1⟩ := A
  rw [← ek]
  have m1 : ∀ h, h < 3 → GW μ1 (mA M h) ∧ rG μ1 (mA M h) = rG μ (mA M h) := fun h hh => f1.main (by omega) (hm h hh)
  obtain ⟨μ2, c2, f2, q2, h2, a2, r2⟩ := ch_lays (d := d) (M := M) hk6 3 0 μ1 (by decide) F3s.refl q1 h1 (fun h hh => ⟨(m1 h hh).1, rfl⟩) (a1 k1 (by omega)) (fun h hh => by omega)
  have F3 : FU M μ2 (jsetI (jsetI (jsetI μ2 M 14 (N (k1 + 1))) M 35 (N 0)) M 36 (N 0)) := ⟨Fx.setI (Fx.setI (Fx.setI Fx.refl (Or.inl rfl)) (Or.inl rfl)) (Or.inl rfl), fun j h1 h2 h3 => by
    simp only [iv_setI, true_and]
    rw [if_neg h3, if_neg h2, if_neg h1]⟩
  have nA : ∀ t g, rG (jsetI (jsetI (jsetI μ2 M 14 (N (k1 + 1))) M 35 (N 0)) M 36 (N 0)) (aA M t g) = rG μ2 (aA M t g) ∧ (GW μ2 (aA M t g) → GW (jsetI (jsetI (jsetI μ2 M 14 (N (k1 + 1))) M 35 (N 0)) M 36 (N 0)) (aA M t g)) := fun t g =>
    ⟨aA_setM.1.trans (aA_setM.1.trans aA_setM.1), fun h => aA_setM.2 (aA_setM.2 (aA_setM.2 h))⟩
  refine ⟨jsetI (jsetI (jsetI μ2 M 14 (N (k1 + 1))) M 35 (N 0)) M 36 (N 0), ?_, f1.trans ((f2.fu hk6).trans F3), fun t ht g hg => (nA t g).2 ?_, ?_, ?_, ?_, fun g hg => ?_, fun t ht g hg => ?_⟩
  · rw [c1, c2, b189_43, if_neg (by decide)]
    have s1 := r_stirs (d := d + 1) (μ := jsetI μ2 M 14 (N (k1 + 1))) (M := M) q2.k13
    simp only [gI13, gR13, pI13, pR13, rv13, Option.bind_some, Option.bind_none, if_true, if_false, true_or, or_true, false_or, or_false, true_and, and_true, false_and, and_false, decide_eq_true_eq, decide_true, decide_false, eq_self, not_true_eq_false, not_false_eq_true, jfit0, N_lit, N_add, N_mul, NEG_eq, pl_none, pl_some, rf_some, rf_none, jun_ref, jun_null, ir_ref, ir_null, jr_rf, jun_rf, Option.toList_some, Option.toList_none, List.nil_append, List.cons_append, jk_setI, q2.k13, h2, s1]
    rw [b189_77]
  · by_cases et : t = k1
    · subst et; exact a2 g hg
    · exact (f2.other (by omega) ht et hg (a1 t ht g hg)).1
  · show (if M = M ∧ 14 = 36 then _ else if M = M ∧ 14 = 35 then _ else if M = M ∧ 14 = 14 then _ else _) = _
    rw [if_neg (fun g => absurd g.2 (by decide)), if_neg (fun g => absurd g.2 (by decide)), if_pos ⟨rfl, rfl⟩, ek]
    split <;> rfl
  · show (if M = M ∧ 35 = 36 then _ else if M = M ∧ 35 = 35 then _ else _) = _
    rw [if_neg (fun g => absurd g.2 (by decide)), if_pos ⟨rfl, rfl⟩]
  · show (if M = M ∧ 36 = 36 then _ else _) = _
    rw [if_pos ⟨rfl, rfl⟩]
  · rw [(nA k1 g).1, r2 g hg]; exact (m1 g hg).2
  · rw [(nA t g).1, (f2.other (by omega) (by omega) (by omega) (by omega) (a1 t (by omega) g (by omega))).2]
    exact r1 t ht g hg
end LAY
