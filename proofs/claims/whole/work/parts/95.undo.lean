/-- the places of undo, and what else a change of them touches -/
def SU (M a : Nat) : Prop := a = M ∨ (M + 30 ≤ a ∧ a < M + 36) ∨ (M + 45 ≤ a ∧ a < M + 75) ∨ (M + 116 ≤ a ∧ a < M + 146) ∨ (M + 187 ≤ a ∧ a < M + 217) ∨ (M + 258 ≤ a ∧ a < M + 288)
def TU (M a : Nat) : Prop := M + 329 ≤ a ∧ a < M + 359 ∧ (a - M - 329) % 5 ≠ 0
def FU (M : Nat) (μ μ' : jM) : Prop := Fx (SU M) (fun a _ => TU M a) μ μ' ∧ ∀ j, j ≠ 14 → j ≠ 35 → j ≠ 36 → jiv μ' M j = jiv μ M j
/-- all the grids laid aside -/
def AA (μ : jM) (M : Nat) : Prop := ∀ t, t < 14 → A3 μ M t
section LAY
variable {μ μ' ν : jM} {S S' : Nat → Prop} {T T' : Nat → Nat → Prop} {M g h t s n w d D i j k x y a b c : Nat} {A B C : GA}
theorem FU.refl : FU M μ μ := ⟨Fx.refl, fun _ _ _ _ => rfl⟩
theorem FU.trans (a : FU M μ μ') (b : FU M μ' ν) : FU M μ ν := ⟨a.1.trans b.1, fun j h1 h2 h3 => (b.2 j h1 h2 h3).trans (a.2 j h1 h2 h3)⟩
theorem FU.qs (F : FU M μ μ') (hq : QS μ M) : QS μ' M := F.1.qs hq (fun a j ⟨h1, h2, h3⟩ => Or.inr (Or.inr (Or.inl ⟨h1, by omega, h3⟩)))
theorem F3s.iM (F : F3s M s μ μ') (hs : s < 14) : jiv μ' M = jiv μ M := F.1.iv (by
  rintro ⟨g, hg, k⟩
  have k := SA_a hs (by omega) k
  omega)
theorem F3s.fu (F : F3s M s μ μ') (hs : s < 6) : FU M μ μ' := by
  refine ⟨F.1.mono ?_ ?_, fun j _ _ _ => by rw [F.iM (by omega)]⟩
  · rintro a ⟨g, hg, k⟩
    have k := SA_a (by omega) (by omega) k
    unfold SU; omega
  · rintro a j ⟨g, hg, k⟩
    unfold TU; omega
/-- the main grids stay -/
theorem FU.main (F : FU M μ μ') (hg : g < 4) (hG : GW μ (mA M g)) : GW μ' (mA M g) ∧ rG μ' (mA M g) = rG μ (mA M g) := by
  have n : ∀ a, M + 1 ≤ a → a < M + 28 → jiv μ' a = jiv μ a := fun a h1 h2 => F.1.iv (by unfold SU; omega)
  refine F.1.gw hG ?_ ?_ ?_ ?_ ?_ (fun j => ?_)
  · show ¬ SU M (M + 3 + g); unfold SU; omega
  · show ¬ SU M (M + 8 + g); unfold SU; omega
  · show ¬ SU M (M + 13 + g); unfold SU; omega
  · show ¬ SU M (M + 18 + g); unfold SU; omega
  · show jiv μ' (M + 1) g = jiv μ (M + 1) g
    rw [n (M + 1) (by omega) (by omega)]
  · show ¬ TU M (M + 23 + g); unfold TU; omega
/-- the places behind those of undo stay -/
theorem FU.rest (F : FU M μ μ') (ht : t < 14) (h6 : 6 ≤ t) (hg : g < 4) (hG : GW μ (aA M t g)) : GW μ' (aA M t g) ∧ rG μ' (aA M t g) = rG μ (aA M t g) := by
  refine F.1.gw hG ?_ ?_ ?_ ?_ ?_ (fun j => ?_)
  · show ¬ SU M (M + 46 + 5 * t + g); unfold SU; omega
  · show ¬ SU M (M + 117 + 5 * t + g); unfold SU; omega
  · show ¬ SU M (M + 188 + 5 * t + g); unfold SU; omega
  · show ¬ SU M (M + 259 + 5 * t + g); unfold SU; omega
  · show jiv μ' (M + 30 + t) g = jiv μ (M + 30 + t) g
    rw [F.1.iv (by unfold SU; omega)]
  · show ¬ TU M (M + 330 + 5 * t + g); unfold TU; omega
theorem ch_moves (hq : QS μ M) (hA : AA μ M) : ∀ (m i : Nat) (μ1 : jM), 1 ≤ i → i + m = 6 → FU M μ μ1 → QS μ1 M → AA μ1 M → jiv μ1 M = jiv μ M → (∀ t, t < 14 → ∀ g, g < 3 → rG μ1 (aA M t g) = rG μ (aA M (if t < i - 1 then t + 1 else t) g)) → ∃ μ', jR (d + 2) 189 11 [.ref M, .int (N i)] [] μ1 = jR (d + 2) 189 11 [.ref M, .int (N 6)] [] μ' ∧ FU M μ μ' ∧ QS μ' M ∧ AA μ' M ∧ jiv μ' M = jiv μ M ∧ ∀ t, t < 14 → ∀ g, g < 3 → rG μ' (aA M t g) = rG μ (aA M (if t < 5 then t + 1 else t) g) := by
  intro m
  induction m with
  | zero =>
    intro i μ1 h1 hi F q a e hv
    have : i = 6 := by omega
    subst this
    exact ⟨μ1, rfl, F, q, a, e, hv⟩
  | succ m ih =>
    intro i μ1 h1 hi F q a e hv
    obtain ⟨μ2, c1, f2, a2, r2⟩ := r_moveAside (d := d) (t := i) (s := i - 1) q (by omega) (by omega) (by omega) (a i (by omega)) (a (i - 1) (by omega))
    obtain ⟨μ', v1, v2⟩ := ih (i + 1) μ2 (by omega) (by omega) (F.trans (f2.fu (by omega))) (f2.qs (by omega) q) (fun t ht => by
      by_cases et : t = i - 1
      · subst et; exact a2
      · intro g hg
        exact (f2.other (by omega) ht et hg (a t ht g hg)).1) ((f2.iM (by omega)).trans e) (fun t ht g hg => by
      by_cases et : t = i - 1
      · subst et
        rw [r2 g hg, hv i (by omega) g hg, if_neg (show ¬ i < i - 1 by omega), if_pos (show i - 1 < i + 1 - 1 by omega), show i - 1 + 1 = i by omega]
      · rw [(f2.other (by omega) ht et (by omega) (a t ht g (by omega))).2, hv t ht g hg]
        by_cases e3 : t < i - 1
        · rw [if_pos e3, if_pos (by omega)]
        · rw [if_neg e3, if_neg (by omega)])
    refine ⟨μ', ?_, v2⟩
    rw [b189_11, if_pos (by show N i < N 6; rw [N_lt (by omega) (by decide)]; omega)]
    simp only [N_lit, N_sub (show 1 ≤ i by omega), NEG_eq, N_pred (show 1 ≤ i by omega), gI13, gR13, pI13, pR13, rv13, Option.bind_some, Option.bind_none, if_true, if_false, true_or, or_true, false_or, or_false, true_and, and_true, false_and, and_false, decide_eq_true_eq, decide_true, decide_false, eq_self, not_true_eq_false, not_false_eq_true, jfit0, N_lit, N_add, N_mul, NEG_eq, pl_none, pl_some, rf_some, rf_none, jun_ref, jun_null, ir_ref, ir_null, jr_rf, jun_rf, Option.toList_some, Option.toList_none, List.nil_append, List.cons_append, q.k13, c1]
    rw [b189_25]
    simp only [N_lit, N_add]
    exact v1
end LAY
