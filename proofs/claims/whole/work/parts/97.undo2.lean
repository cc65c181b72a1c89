/-- the main grids, and what else taking back touches -/
def SB (M a : Nat) : Prop := a = M ∨ (M + 1 ≤ a ∧ a < M + 22 ∧ a ≠ M + 2 ∧ a ≠ M + 7 ∧ a ≠ M + 12 ∧ a ≠ M + 17 ∧ a ≠ M + 6 ∧ a ≠ M + 11 ∧ a ≠ M + 16 ∧ a ≠ M + 21)
def FB (M : Nat) (μ μ' : jM) : Prop := Fx (SB M) (fun a _ => M + 23 ≤ a ∧ a < M + 26) μ μ' ∧ (∀ j, j ≠ 14 → j ≠ 35 → j ≠ 36 → jiv μ' M j = jiv μ M j) ∧ ∀ j, 3 ≤ j → jiv μ' (M + 1) j = jiv μ (M + 1) j
section LAY
variable {μ μ' ν : jM} {S S' : Nat → Prop} {T T' : Nat → Nat → Prop} {M g h t s n w d D i j k x y a b c : Nat} {A B C : GA}
theorem FB.refl : FB M μ μ := ⟨Fx.refl, fun _ _ _ _ => rfl, fun _ _ => rfl⟩
theorem FB.trans (a : FB M μ μ') (b : FB M μ' ν) : FB M μ ν := ⟨a.1.trans b.1, fun j h1 h2 h3 => (b.2.1 j h1 h2 h3).trans (a.2.1 j h1 h2 h3), fun j h => (b.2.2 j h).trans (a.2.2 j h)⟩
theorem FB.qs (F : FB M μ μ') (hq : QS μ M) : QS μ' M := F.1.qs hq (fun a j ⟨h1, h2⟩ => Or.inr (Or.inl (by omega)))
/-- the fourth grid stays -/
theorem FB.m3 (F : FB M μ μ') (hG : GW μ (mA M 3)) : GW μ' (mA M 3) ∧ rG μ' (mA M 3) = rG μ (mA M 3) := by
  refine F.1.gw hG ?_ ?_ ?_ ?_ ?_ (fun j => ?_)
  · show ¬ SB M (M + 3 + 3); unfold SB; omega
  · show ¬ SB M (M + 8 + 3); unfold SB; omega
  · show ¬ SB M (M + 13 + 3); unfold SB; omega
  · show ¬ SB M (M + 18 + 3); unfold SB; omega
  · exact F.2.2 3 (by decide)
  · show ¬ (M + 23 ≤ M + 23 + 3 ∧ M + 23 + 3 < M + 26); omega
/-- all that is laid aside stays -/
theorem FB.aa (F : FB M μ μ') (ht : t < 14) (hg : g < 4) (hG : GW μ (aA M t g)) : GW μ' (aA M t g) ∧ rG μ' (aA M t g) = rG μ (aA M t g) := by
  refine F.1.gw hG ?_ ?_ ?_ ?_ ?_ (fun j => ?_)
  · show ¬ SB M (M + 46 + 5 * t + g); unfold SB; omega
  · show ¬ SB M (M + 117 + 5 * t + g); unfold SB; omega
  · show ¬ SB M (M + 188 + 5 * t + g); unfold SB; omega
  · show ¬ SB M (M + 259 + 5 * t + g); unfold SB; omega
  · exact congrFun (F.1.iv (a := M + 30 + t) (by unfold SB; omega)) _
  · show ¬ (M + 23 ≤ M + 330 + 5 * t + g ∧ M + 330 + 5 * t + g < M + 26); omega
theorem SA_m (h : SA (mA M g) a) : a = M + 1 ∨ a = M + 3 + g ∨ a = M + 8 + g ∨ a = M + 13 + g ∨ a = M + 18 + g := h
theorem cpF_fb (hg : g < 3) (F : Fx (SA (mA M g)) (fun a _ => a = M + 23 + g) μ μ') (h0 : ∀ j, j ≠ g → jiv μ' (M + 1) j = jiv μ (M + 1) j) : FB M μ μ' ∧ jiv μ' M = jiv μ M := by
  have iM : jiv μ' M = jiv μ M := F.iv (fun k => by have k := SA_m k; omega)
  refine ⟨⟨F.mono (fun a k => ?_) (fun a j k => ?_), fun j _ _ _ => by rw [iM], fun j hj => h0 j (by omega)⟩, iM⟩
  · have k := SA_m k; unfold SB; omega
  · have k : a = M + 23 + g := k
    omega
/-- another main grid -/
theorem cpF_mside (hne : t ≠ g) (hg : g < 4) (ht : t < 4) (F : Fx (SA (mA M g)) (fun a _ => a = M + 23 + g) μ μ') (h0 : ∀ j, j ≠ g → jiv μ' (M + 1) j = jiv μ (M + 1) j) (hG : GW μ (mA M t)) : GW μ' (mA M t) ∧ rG μ' (mA M t) = rG μ (mA M t) := by
  refine F.gw hG (fun k => ?_) (fun k => ?_) (fun k => ?_) (fun k => ?_) (h0 t hne) (fun j k => ?_)
  · have k := SA_m (a := M + 3 + t) k; omega
  · have k := SA_m (a := M + 8 + t) k; omega
  · have k := SA_m (a := M + 13 + t) k; omega
  · have k := SA_m (a := M + 18 + t) k; omega
  · have k : M + 23 + t = M + 23 + g := k; omega
theorem un_backs {k : Nat} (hk : k < 14) (hA : AA μ M) : ∀ (m g : Nat) (μ1 : jM), g + m = 3 → FB M μ μ1 → QS μ1 M → jiv μ1 M 14 = N k → (∀ h, h < 3 → GW μ1 (mA M h)) → (∀ h, h < g → rG μ1 (mA M h) = rG μ (aA M k h)) → ∃ μ', jR (d + 2) 161 22 [.ref M, .int (N g)] [] μ1 = jR (d + 2) 161 22 [.ref M, .int (N 3)] [] μ' ∧ FB M μ μ' ∧ QS μ' M ∧ jiv μ' M 14 = N k ∧ (∀ h, h < 3 → GW μ' (mA M h)) ∧ ∀ h, h < 3 → rG μ' (mA M h) = rG μ (aA M k h) := by
  intro m
  induction m with
  | zero =>
    intro g μ1 hg F q h14 hm hv
    have : g = 3 := by omega
    subst this
    exact ⟨μ1, rfl, F, q, h14, hm, hv⟩
  | succ m ih =>
    intro g μ1 hg F q h14 hm hv
    have hg4 : g < 4 := by omega
    obtain ⟨o1, o2⟩ := F.aa hk hg4 (hA k hk g hg4)
    have F1 : Fx (SA (mA M g)) (fun a _ => a = M + 23 + g) μ1 (cpF (gcI μ1 (aA M k g) (mA M g)) (aA M k g) (mA M g) 24) := cpF_fr
    obtain ⟨e1, e2, e3⟩ := cpF_rd (mA_ok (M := M) hg4) (ma_dis (M := M) hg4 hg4 hk).2 o1 (hm g (by omega)).2.2
    have st := r_layBack (d := d) q hk hg4 o1.2.2
    generalize cpF (gcI μ1 (aA M k g) (mA M g)) (aA M k g) (mA M g) 24 = μ2 at *
    have e3 : ∀ j, j ≠ g → jiv μ2 (M + 1) j = jiv μ1 (M + 1) j := e3
    obtain ⟨f2, i2⟩ := cpF_fb (show g < 3 by omega) F1 e3
    obtain ⟨μ', v1, v2⟩ := ih (g + 1) μ2 (by omega) (F.trans f2) (f2.qs q) (by rw [i2]; exact h14) (fun h hh => by
      by_cases e : h = g
      · subst e; exact e1
      · exact (cpF_mside e hg4 (by omega) F1 e3 (hm h hh)).1) (fun h hh => by
      by_cases e : h = g
      · subst e; rw [e2]; exact o2
      · rw [(cpF_mside e hg4 (by omega) F1 e3 (hm h (by omega))).2]
        exact hv h (by omega))
    refine ⟨μ', ?_, v2⟩
    rw [b161_22, if_pos (by show N g < N 3; rw [N_lt (by omega) (by decide)]; omega)]
    simp only [gI13, gR13, pI13, pR13, rv13, Option.bind_some, Option.bind_none, if_true, if_false, true_or, or_true, false_or, or_false, true_and, and_true, false_and, and_false, decide_eq_true_eq, decide_true, decide_false, eq_self, not_true_eq_false, not_false_eq_true, jfit0, N_lit, N_add, N_mul, NEG_eq, pl_none, pl_some, rf_some, rf_none, jun_ref, jun_null, ir_ref, ir_null, jr_rf, jun_rf, Option.toList_some, Option.toList_none, List.nil_append, List.cons_append, q.k13, h14, st]
    rw [b161_36]
    simp only [N_lit, N_add]
    exact v1
theorem mA_setM {v : Int32} : rG (jsetI μ M j v) (mA M g) = rG μ (mA M g) ∧ (GW μ (mA M g) → GW (jsetI μ M j v) (mA M g)) := by
  have n : ∀ a, a ≠ M → jiv (jsetI μ M j v) a = jiv μ a := fun a ha => iv_setIn ha
  have e0 : jiv (jsetI μ M j v) ((mA M g).1 0) (mA M g).2 = jiv μ ((mA M g).1 0) (mA M g).2 := congrFun (n (M + 1) (by omega)) _
  obtain ⟨z1, z2⟩ := rG_same (μ := μ) (μ' := jsetI μ M j v) (A := mA M g) e0 (n _ (show M + 3 + g ≠ M by omega)) (n _ (show M + 8 + g ≠ M by omega)) (n _ (show M + 13 + g ≠ M by omega)) rfl (n _ (show M + 18 + g ≠ M by omega))
  exact ⟨z1, fun h => ⟨by rw [z2, e0]; exact h.1, by rw [z2]; exact h.2.1, h.2.2⟩⟩
theorem r_undo0 (hq : QS μ M) (h14 : jiv μ M 14 = N 0) : jC d 161 [.ref M] μ = some (some (.int (-3)), μ) := by
  rw [jC_run (by decide)]
  show jR d 161 0 [.ref M, .retAddr 0] [] μ = _
  rw [b161_0]
  simp only [gI13, gR13, pI13, pR13, rv13, hq.k13, if_true, Option.bind_some]
  rw [if_pos (show jiv μ M 14 = 0 from h14)]
theorem r_undo {k : Nat} (hq : QS μ M) (h14 : jiv μ M 14 = N (k + 1)) (hk : k < 6) (hA : AA μ M) (hm : ∀ g, g < 3 → GW μ (mA M g)) : ∃ μ', jC (d + 2) 161 [.ref M] μ = some (some (.int (N k)), μ') ∧ FB M μ μ' ∧ (∀ h, h < 3 → GW μ' (mA M h)) ∧ jiv μ' M 14 = N k ∧ jiv μ' M 35 = N 0 ∧ jiv μ' M 36 = N 0 ∧ ∀ g, g < 3 → rG μ' (mA M g) = rG μ (aA M k g) := by
  have k13 := hq.k13
  have F0 : ∀ (μ : jM) (j : Nat) (v : Int32), j = 14 ∨ j = 35 ∨ j = 36 → FB M μ (jsetI μ M j v) := fun μ j v hj => ⟨Fx.setI Fx.refl (Or.inl rfl), fun i h1 h2 h3 => by
    show (if M = M ∧ i = j then v else jiv μ M i) = _
    rw [if_neg (fun g => by omega)], fun i _ => by
    show (if M + 1 = M ∧ i = j then v else jiv μ (M + 1) i) = _
    rw [if_neg (fun g => by omega)]⟩
  have q0 : QS (jsetI μ M 14 (N k)) M := (F0 μ 14 (N k) (Or.inl rfl)).qs hq
  obtain ⟨μ2, c2, f2, q2, h2, m2, r2⟩ := un_backs (d := d) (show k < 14 by omega) hA 3 0 (jsetI μ M 14 (N k)) (by decide) (F0 μ 14 (N k) (Or.inl rfl)) q0 (if_pos ⟨rfl, rfl⟩) (fun h hh => mA_setM.2 (hm h hh)) (fun h hh => by omega)
  refine ⟨jsetI (jsetI μ2 M 35 (N 0)) M 36 (N 0), ?_, f2.trans ((F0 _ 35 _ (by decide)).trans (F0 _ 36 _ (by decide))), fun h hh => mA_setM.2 (mA_setM.2 (m2 h hh)), ?_, ?_, ?_, fun g hg => ?_⟩
  · rw [jC_run (by decide)]
    show jR (d + 2) 161 0 [.ref M, .retAddr 0] [] μ = _
    rw [b161_0]
    simp only [gI13, gR13, pI13, pR13, rv13, k13, if_true, Option.bind_some]
    rw [if_neg (by rw [h14]; show ¬ N (k + 1) = N 0; rw [N_inj (by omega) (by decide)]; omega)]
    have e1 : N (k + 1) - 1 = N k := by
      rw [show (1 : Int32) = N 1 from rfl, N_sub (by omega)]; rfl
    simp only [h14, e1, jfit0, and_true, k13, if_true, Option.bind_some]
    have s1 := r_stirs (d := d + 1) (μ := μ2) (M := M) q2.k13
    show jR (d + 2) 161 22 [.ref M, .int (N 0)] [] (jsetI μ M 14 (N k)) = _
    rw [c2, b161_22, if_neg (by decide)]
    simp only [gI13, gR13, pI13, pR13, rv13, Option.bind_some, Option.bind_none, if_true, if_false, true_or, or_true, false_or, or_false, true_and, and_true, false_and, and_false, decide_eq_true_eq, decide_true, decide_false, eq_self, not_true_eq_false, not_false_eq_true, jfit0, N_lit, N_add, N_mul, NEG_eq, pl_none, pl_some, rf_some, rf_none, jun_ref, jun_null, ir_ref, ir_null, jr_rf, jun_rf, Option.toList_some, Option.toList_none, List.nil_append, List.cons_append, q2.k13, s1]
    rw [b161_46]
    simp only [gI13, gR13, pI13, pR13, rv13, jk_setI, q2.k13, if_true, Option.bind_some]
    have : jiv (jsetI (jsetI μ2 M 35 (N 0)) M 36 (N 0)) M 14 = N k := by
      show (if M = M ∧ 14 = 36 then _ else if M = M ∧ 14 = 35 then _ else _) = _
      rw [if_neg (fun g => absurd g.2 (by decide)), if_neg (fun g => absurd g.2 (by decide))]
      exact h2
    rw [this]
  · show (if M = M ∧ 14 = 36 then _ else if M = M ∧ 14 = 35 then _ else _) = _
    rw [if_neg (fun g => absurd g.2 (by decide)), if_neg (fun g => absurd g.2 (by decide))]
    exact h2
  · show (if M = M ∧ 35 = 36 then _ else if M = M ∧ 35 = 35 then _ else _) = _
    rw [if_neg (fun g => absurd g.2 (by decide)), if_pos ⟨rfl, rfl⟩]
  · exact if_pos ⟨rfl, rfl⟩
  · exact mA_setM.1.trans (mA_setM.1.trans (r2 g hg))
end LAY
