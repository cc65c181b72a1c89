/-! THE REFERENCE's CALLS: an image laid aside -/
/-- the places of the image, and what else laying it aside touches -/
def SI6 (M a : Nat) : Prop := a = M ∨ a = M + 415 ∨ (M + 36 ≤ a ∧ a < M + 44) ∨ (M + 75 ≤ a ∧ a < M + 115) ∨ (M + 146 ≤ a ∧ a < M + 186) ∨ (M + 217 ≤ a ∧ a < M + 257) ∨ (M + 288 ≤ a ∧ a < M + 328)
def TI6 (M a : Nat) : Prop := M + 359 ≤ a ∧ a < M + 399 ∧ (a - M - 329) % 5 ≠ 0
def FI6 (M : Nat) (μ μ' : jM) : Prop := Fx (SI6 M) (fun a _ => TI6 M a) μ μ' ∧ ∀ j, j ≠ 49 → j ≠ 50 → jiv μ' M j = jiv μ M j
section LAY
variable {μ μ' ν : jM} {S S' : Nat → Prop} {T T' : Nat → Nat → Prop} {M g h t s n w d D i j k x y a b c : Nat} {A B C : GA} {σ : SG}
/-- another entry -/
theorem ivj {v : Int32} (h : j ≠ k) : jiv (jsetI μ a k v) b j = jiv μ b j := by
  show (if b = a ∧ j = k then v else jiv μ b j) = jiv μ b j
  rw [if_neg (fun q => h q.2)]
theorem FI6.refl : FI6 M μ μ := ⟨Fx.refl, fun _ _ _ => rfl⟩
theorem FI6.trans (a : FI6 M μ μ') (b : FI6 M μ' ν) : FI6 M μ ν := ⟨a.1.trans b.1, fun j h1 h2 => (b.2 j h1 h2).trans (a.2 j h1 h2)⟩
theorem FI6.qs (F : FI6 M μ μ') (hq : QS μ M) : QS μ' M := F.1.qs hq (fun a j ⟨h1, h2, h3⟩ => Or.inr (Or.inr (Or.inl ⟨by omega, by omega, h3⟩)))
theorem FI6.fr (F : FI6 M μ μ') : FR M μ μ' := F.1.mono (fun a k => by unfold SI6 at k; omega) (fun a j k => by unfold TI6 at k; omega)
/-- the main grids stay -/
theorem FI6.main (F : FI6 M μ μ') (hg : g < 4) (hG : GW μ (mA M g)) : GW μ' (mA M g) ∧ rG μ' (mA M g) = rG μ (mA M g) := by
  have n : ∀ a, M + 1 ≤ a → a < M + 28 → jiv μ' a = jiv μ a := fun a h1 h2 => F.1.iv (by unfold SI6; omega)
  refine F.1.gw hG ?_ ?_ ?_ ?_ ?_ (fun j => ?_)
  · show ¬ SI6 M (M + 3 + g); unfold SI6; omega
  · show ¬ SI6 M (M + 8 + g); unfold SI6; omega
  · show ¬ SI6 M (M + 13 + g); unfold SI6; omega
  · show ¬ SI6 M (M + 18 + g); unfold SI6; omega
  · show jiv μ' (M + 1) g = jiv μ (M + 1) g
    rw [n (M + 1) (by omega) (by omega)]
  · show ¬ TI6 M (M + 23 + g); unfold TI6; omega
/-- the places of undo stay -/
theorem FI6.und (F : FI6 M μ μ') (ht : t < 6) (hg : g < 4) (hG : GW μ (aA M t g)) : GW μ' (aA M t g) ∧ rG μ' (aA M t g) = rG μ (aA M t g) := by
  refine F.1.gw hG ?_ ?_ ?_ ?_ ?_ (fun j => ?_)
  · show ¬ SI6 M (M + 46 + 5 * t + g); unfold SI6; omega
  · show ¬ SI6 M (M + 117 + 5 * t + g); unfold SI6; omega
  · show ¬ SI6 M (M + 188 + 5 * t + g); unfold SI6; omega
  · show ¬ SI6 M (M + 259 + 5 * t + g); unfold SI6; omega
  · show jiv μ' (M + 30 + t) g = jiv μ (M + 30 + t) g
    rw [F.1.iv (by unfold SI6; omega)]
  · show ¬ TI6 M (M + 330 + 5 * t + g); unfold TI6; omega
theorem F3s.fi (F : F3s M s μ μ') (h6 : 6 ≤ s) (hs : s < 14) : FI6 M μ μ' := by
  refine ⟨F.1.mono ?_ ?_, fun j _ _ => by rw [F.iM hs]⟩
  · rintro a ⟨g, hg, k⟩
    have k := SA_a hs (by omega) k
    unfold SI6; omega
  · rintro a j ⟨g, hg, k⟩
    unfold TI6; omega
/-- a grid written over at a place: other places -/
theorem cpF_other (hs : s < 14) (hg : g < 4) (ht : t < 14) (hne : t ≠ s) (hh : h < 4) (F : Fx (SA (aA M s g)) (fun a _ => a = M + 330 + 5 * s + g) μ μ') (hG : GW μ (aA M t h)) : GW μ' (aA M t h) ∧ rG μ' (aA M t h) = rG μ (aA M t h) := by
  have n : ∀ a, (a = M + 30 + t ∨ a = M + 46 + 5 * t + h ∨ a = M + 117 + 5 * t + h ∨ a = M + 188 + 5 * t + h ∨ a = M + 259 + 5 * t + h) → ¬ SA (aA M s g) a := by
    intro a ha k
    have k := SA_a hs hg k
    omega
  refine F.gw hG (n (M + 46 + 5 * t + h) (by omega)) (n (M + 117 + 5 * t + h) (by omega)) (n (M + 188 + 5 * t + h) (by omega)) (n (M + 259 + 5 * t + h) (by omega)) ?_ (fun j => ?_)
  · show jiv μ' (M + 30 + t) h = jiv μ (M + 30 + t) h
    rw [F.iv (n (M + 30 + t) (by omega))]
  · intro k
    have k : M + 330 + 5 * t + h = M + 330 + 5 * s + g := k
    omega
theorem cpF_fi (h6 : 6 ≤ s) (hs : s < 14) (hg : g < 4) (F : Fx (SA (aA M s g)) (fun a _ => a = M + 330 + 5 * s + g) μ μ') : FI6 M μ μ' ∧ jiv μ' M = jiv μ M := by
  have iM : jiv μ' M = jiv μ M := F.iv (fun k => by have k := SA_a hs hg k; omega)
  refine ⟨⟨F.mono (fun a k => ?_) (fun a j k => ?_), fun j _ _ => by rw [iM]⟩, iM⟩
  · have k := SA_a hs hg k; unfold SI6; omega
  · have k : a = M + 330 + 5 * s + g := k
    unfold TI6; omega
/-- a grid written over at a place: all places -/
theorem cpF_aa (hs : s < 14) (hg : g < 4) (F : Fx (SA (aA M s g)) (fun a _ => a = M + 330 + 5 * s + g) μ μ') (h0 : ∀ j, j ≠ g → jiv μ' (M + 30 + s) j = jiv μ (M + 30 + s) j) (h1 : GW μ' (aA M s g)) (hA : AA μ M) : AA μ' M := by
  intro t ht h hh
  by_cases e : t = s
  · subst e
    by_cases e2 : h = g
    · subst e2; exact h1
    · exact (cpF_side hs hg hh e2 F h0 (hA t ht h hh)).1
  · exact (cpF_other hs hg ht e hh F (hA t ht h hh)).1
theorem F3s.aa (F : F3s M s μ μ') (hs : s < 14) (h1 : A3 μ' M s) (hA : AA μ M) : AA μ' M := by
  intro t ht h hh
  by_cases e : t = s
  · subst e; exact h1 h hh
  · exact (F.other hs ht e hh (hA t ht h hh)).1
theorem im_lays (hm : ∀ g, g < 4 → GW μ (mA M g)) : ∀ (m g : Nat) (μ1 : jM), g + m = 4 → FI6 M μ μ1 → QS μ1 M → AA μ1 M → (∀ h, h < g → rG μ1 (aA M 6 h) = rG μ (mA M h)) → ∃ μ', jR (d + 2) 259 7 [.ref M, .int (N g)] [] μ1 = jR (d + 2) 259 7 [.ref M, .int (N 4)] [] μ' ∧ FI6 M μ μ' ∧ QS μ' M ∧ AA μ' M ∧ jiv μ' M = jiv μ1 M ∧ ∀ h, h < 4 → rG μ' (aA M 6 h) = rG μ (mA M h) := by
  intro m
  induction m with
  | zero =>
    intro g μ1 hg F q a hv
    have : g = 4 := by omega
    subst this
    exact ⟨μ1, rfl, F, q, a, rfl, hv⟩
  | succ m ih =>
    intro g μ1 hg F q a hv
    have hg4 : g < 4 := by omega
    obtain ⟨o1, o2⟩ := F.main hg4 (hm g hg4)
    have F1 : Fx (SA (aA M 6 g)) (fun a _ => a = M + 330 + 5 * 6 + g) μ1 (cpF (gcI μ1 (mA M g) (aA M 6 g)) (mA M g) (aA M 6 g) 24) := cpF_fr
    obtain ⟨e1, e2, e3⟩ := cpF_rd (aA_ok (M := M) hg4 (show 6 < 14 by omega)) (ma_dis (M := M) hg4 hg4 (show 6 < 14 by omega)).1 o1 (a 6 (by decide) g hg4).2.2
    have st := r_lay (d := d) q (show 6 < 14 by omega) hg4 o1.2.2
    generalize cpF (gcI μ1 (mA M g) (aA M 6 g)) (mA M g) (aA M 6 g) 24 = μ2 at *
    have e3 : ∀ j, j ≠ g → jiv μ2 (M + 30 + 6) j = jiv μ1 (M + 30 + 6) j := e3
    obtain ⟨f2, i2⟩ := cpF_fi (by decide) (by decide) hg4 F1
    obtain ⟨μ', v1, v2, v3, v4, v5, v6⟩ := ih (g + 1) μ2 (by omega) (F.trans f2) (f2.qs q) (cpF_aa (by decide) hg4 F1 e3 e1 a) (fun h hh => by
      by_cases e : h = g
      · subst e; rw [e2]; exact o2
      · rw [(cpF_side (by omega) hg4 (by omega) e F1 e3 (a 6 (by decide) h (by omega))).2]
        exact hv h (by omega))
    refine ⟨μ', ?_, v2, v3, v4, by rw [v5, i2], v6⟩
    rw [b259_7, if_pos (by show N g < N 4; rw [N_lt (by omega) (by decide)]; omega)]
    simp only [gI13, gR13, pI13, pR13, rv13, Option.bind_some, Option.bind_none, if_true, if_false, true_or, or_true, false_or, or_false, true_and, and_true, false_and, and_false, decide_eq_true_eq, decide_true, decide_false, eq_self, not_true_eq_false, not_false_eq_true, jfit0, N_lit, N_add, N_mul, NEG_eq, pl_none, pl_some, rf_some, rf_none, jun_ref, jun_null, ir_ref, ir_null, jr_rf, jun_rf, Option.toList_some, Option.toList_none, List.nil_append, List.cons_append, q.k13, st]
    rw [b259_19]
    simp only [N_lit, N_add]
    exact v1
theorem im_moves (hk : k ≤ 6) (hA : AA μ M) : ∀ (m i : Nat) (μ1 : jM), i + m = k → FI6 M μ μ1 → QS μ1 M → AA μ1 M → jiv μ1 M 14 = N k → (∀ j, j < i → ∀ g, g < 3 → rG μ1 (aA M (7 + j) g) = rG μ (aA M j g)) → ∃ μ', jR (d + 2) 259 35 [.ref M, .int (N i)] [] μ1 = jR (d + 2) 259 35 [.ref M, .int (N k)] [] μ' ∧ FI6 M μ μ' ∧ QS μ' M ∧ AA μ' M ∧ jiv μ' M = jiv μ1 M ∧ (∀ j, j < k → ∀ g, g < 3 → rG μ' (aA M (7 + j) g) = rG μ (aA M j g)) ∧ ∀ g, g < 4 → rG μ' (aA M 6 g) = rG μ1 (aA M 6 g) := by
  intro m
  induction m with
  | zero =>
    intro i μ1 hi F q a h14 hv
    have : i = k := by omega
    subst this
    exact ⟨μ1, rfl, F, q, a, rfl, hv, fun _ _ => rfl⟩
  | succ m ih =>
    intro i μ1 hi F q a h14 hv
    obtain ⟨μ2, c1, f2, a2, r2⟩ := r_moveAside (d := d) (t := i) (s := 7 + i) q (by omega) (by omega) (by omega) (a i (by omega)) (a (7 + i) (by omega))
    have i2 := f2.iM (by omega)
    obtain ⟨μ', v1, v2, v3, v4, v5, v6, v7⟩ := ih (i + 1) μ2 (by omega) (F.trans (f2.fi (by omega) (by omega))) (f2.qs (by omega) q) (f2.aa (by omega) a2 a) (by rw [i2]; exact h14) (fun j hj g hg => by
      by_cases e : j = i
      · subst e
        rw [r2 g hg]; exact (F.und (by omega) (by omega) (hA j (by omega) g (by omega))).2
      · rw [(f2.other (by omega) (show 7 + j < 14 by omega) (by omega) (by omega) (a (7 + j) (by omega) g (by omega))).2]
        exact hv j (by omega) g hg)
    refine ⟨μ', ?_, v2, v3, v4, by rw [v5, i2], v6, fun g hg => ?_⟩
    · rw [b259_35]
      simp only [gI13, gR13, pI13, pR13, rv13, q.k13, if_true, Option.bind_some, h14]
      rw [if_pos (by rw [N_lt (by omega) (by omega)]; omega)]
      have e7 : (7 : Int32) + N i = N (7 + i) := by rw [show (7 : Int32) = N 7 from rfl, N_add]
      simp only [e7, Option.bind_some, Option.bind_none, if_true, if_false, true_or, or_true, false_or, or_false, true_and, and_true, false_and, and_false, decide_eq_true_eq, decide_true, decide_false, eq_self, not_true_eq_false, not_false_eq_true, jfit0, N_lit, N_add, N_mul, NEG_eq, pl_none, pl_some, rf_some, rf_none, jun_ref, jun_null, ir_ref, ir_null, jr_rf, jun_rf, Option.toList_some, Option.toList_none, List.nil_append, List.cons_append, c1]
      rw [b259_52]
      simp only [N_lit, N_add]
      exact v1
    · rw [v7 g hg]
      exact (f2.other (by omega) (by decide) (by omega) hg (a 6 (by decide) g hg)).2
end LAY
