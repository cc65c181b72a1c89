/-! THE REFERENCE's CALLS: the image laid back -/
/-- all that taking the image back touches -/
def SK (M a : Nat) : Prop := (M ≤ a ∧ a < M + 22) ∨ a = M + 27 ∨ a = M + 28 ∨ SU M a
def TK (M a : Nat) : Prop := (M + 23 ≤ a ∧ a < M + 27) ∨ TU M a
def FKb (M : Nat) (μ μ' : jM) : Prop := Fx (SK M) (fun a _ => TK M a) μ μ' ∧ ∀ j, j ≠ 14 → j ≠ 35 → j ≠ 36 → jiv μ' M j = jiv μ M j
section LAY
variable {μ μ' ν : jM} {S S' : Nat → Prop} {T T' : Nat → Nat → Prop} {M g h t s n w d D i j k x y a b c : Nat} {A B C : GA} {σ : SG}
theorem FKb.refl : FKb M μ μ := ⟨Fx.refl, fun _ _ _ _ => rfl⟩
theorem FKb.trans (a : FKb M μ μ') (b : FKb M μ' ν) : FKb M μ ν := ⟨a.1.trans b.1, fun j h1 h2 h3 => (b.2 j h1 h2 h3).trans (a.2 j h1 h2 h3)⟩
theorem FKb.qs (F : FKb M μ μ') (hq : QS μ M) : QS μ' M := F.1.qs hq (fun a j k => by
  rcases k with h | ⟨h1, h2, h3⟩
  · exact Or.inr (Or.inl h)
  · exact Or.inr (Or.inr (Or.inl ⟨h1, by omega, h3⟩)))
theorem FKb.fr (F : FKb M μ μ') : FR M μ μ' := F.1.mono (fun a k => by unfold SK SU at k; omega) (fun a j k => by unfold TK TU at k; omega)
theorem FKb.rest (F : FKb M μ μ') (ht : t < 14) (h6 : 6 ≤ t) (hg : g < 4) (hG : GW μ (aA M t g)) : GW μ' (aA M t g) ∧ rG μ' (aA M t g) = rG μ (aA M t g) := by
  refine F.1.gw hG ?_ ?_ ?_ ?_ ?_ (fun j => ?_)
  · show ¬ SK M (M + 46 + 5 * t + g); unfold SK SU; omega
  · show ¬ SK M (M + 117 + 5 * t + g); unfold SK SU; omega
  · show ¬ SK M (M + 188 + 5 * t + g); unfold SK SU; omega
  · show ¬ SK M (M + 259 + 5 * t + g); unfold SK SU; omega
  · show jiv μ' (M + 30 + t) g = jiv μ (M + 30 + t) g
    rw [F.1.iv (by unfold SK SU; omega)]
  · show ¬ TK M (M + 330 + 5 * t + g); unfold TK TU; omega
theorem FU.fk (F : FU M μ μ') : FKb M μ μ' := ⟨F.1.mono (fun a k => Or.inr (Or.inr (Or.inr k))) (fun a j k => Or.inr k), F.2⟩
/-- a main grid written over: what is laid aside -/
theorem cpF_maa (hg : g < 4) (F : Fx (SA (mA M g)) (fun a _ => a = M + 23 + g) μ μ') (ht : t < 14) (hh : h < 4) (hG : GW μ (aA M t h)) : GW μ' (aA M t h) ∧ rG μ' (aA M t h) = rG μ (aA M t h) := by
  have n : ∀ a, M + 28 < a → ¬ SA (mA M g) a := by
    intro a ha k
    have k := SA_m k
    omega
  refine F.gw hG (n (M + 46 + 5 * t + h) (by omega)) (n (M + 117 + 5 * t + h) (by omega)) (n (M + 188 + 5 * t + h) (by omega)) (n (M + 259 + 5 * t + h) (by omega)) ?_ (fun j => ?_)
  · show jiv μ' (M + 30 + t) h = jiv μ (M + 30 + t) h
    rw [F.iv (n (M + 30 + t) (by omega))]
  · intro k
    have k : M + 330 + 5 * t + h = M + 23 + g := k
    omega
theorem cpF_fk (hg : g < 4) (F : Fx (SA (mA M g)) (fun a _ => a = M + 23 + g) μ μ') : FKb M μ μ' ∧ jiv μ' M = jiv μ M := by
  have iM : jiv μ' M = jiv μ M := F.iv (fun k => by have k := SA_m k; omega)
  refine ⟨⟨F.mono (fun a k => ?_) (fun a j k => ?_), fun j _ _ _ => by rw [iM]⟩, iM⟩
  · have k := SA_m k; unfold SK; omega
  · have k : a = M + 23 + g := k
    unfold TK; omega
theorem bk_lays (hA : AA μ M) : ∀ (m g : Nat) (μ1 : jM), g + m = 4 → FKb M μ μ1 → QS μ1 M → AA μ1 M → (∀ h, h < 4 → GW μ1 (mA M h)) → (∀ h, h < g → rG μ1 (mA M h) = rG μ (aA M 6 h)) → ∃ μ', jR (d + 2) 260 12 [.ref M, .int (N g)] [] μ1 = jR (d + 2) 260 12 [.ref M, .int (N 4)] [] μ' ∧ FKb M μ μ' ∧ QS μ' M ∧ AA μ' M ∧ jiv μ' M = jiv μ1 M ∧ (∀ h, h < 4 → GW μ' (mA M h)) ∧ ∀ h, h < 4 → rG μ' (mA M h) = rG μ (aA M 6 h) := by
  intro m
  induction m with
  | zero =>
    intro g μ1 hg F q a hm hv
    have : g = 4 := by omega
    subst this
    exact ⟨μ1, rfl, F, q, a, rfl, hm, hv⟩
  | succ m ih =>
    intro g μ1 hg F q a hm hv
    have hg4 : g < 4 := by omega
    obtain ⟨o1, o2⟩ := F.rest (show 6 < 14 by decide) (by decide) hg4 (hA 6 (by decide) g hg4)
    have F1 : Fx (SA (mA M g)) (fun a _ => a = M + 23 + g) μ1 (cpF (gcI μ1 (aA M 6 g) (mA M g)) (aA M 6 g) (mA M g) 24) := cpF_fr
    obtain ⟨e1, e2, e3⟩ := cpF_rd (mA_ok (M := M) hg4) (ma_dis (M := M) hg4 hg4 (show 6 < 14 by decide)).2 o1 (hm g hg4).2.2
    have st := r_layBack (d := d) q (show 6 < 14 by decide) hg4 o1.2.2
    generalize cpF (gcI μ1 (aA M 6 g) (mA M g)) (aA M 6 g) (mA M g) 24 = μ2 at *
    have e3 : ∀ j, j ≠ g → jiv μ2 (M + 1) j = jiv μ1 (M + 1) j := e3
    obtain ⟨f2, i2⟩ := cpF_fk hg4 F1
    obtain ⟨μ', v1, v2, v3, v4, v5, v6⟩ := ih (g + 1) μ2 (by omega) (F.trans f2) (f2.qs q) (fun t ht h hh => (cpF_maa hg4 F1 ht hh (a t ht h hh)).1) (fun h hh => by
      by_cases e : h = g
      · subst e; exact e1
      · exact (cpF_mside e hg4 hh F1 e3 (hm h hh)).1) (fun h hh => by
      by_cases e : h = g
      · subst e; rw [e2]; exact o2
      · rw [(cpF_mside e hg4 (by omega) F1 e3 (hm h (by omega))).2]
        exact hv h (by omega))
    refine ⟨μ', ?_, v2, v3, v4, by rw [v5, i2], v6⟩
    rw [b260_12, if_pos (by show N g < N 4; rw [N_lt (by omega) (by decide)]; omega)]
    simp only [gI13, gR13, pI13, pR13, rv13, Option.bind_some, Option.bind_none, if_true, if_false, true_or, or_true, false_or, or_false, true_and, and_true, false_and, and_false, decide_eq_true_eq, decide_true, decide_false, eq_self, not_true_eq_false, not_false_eq_true, jfit0, N_lit, N_add, N_mul, NEG_eq, pl_none, pl_some, rf_some, rf_none, jun_ref, jun_null, ir_ref, ir_null, jr_rf, jun_rf, Option.toList_some, Option.toList_none, List.nil_append, List.cons_append, q.k13, st]
    rw [b260_24]
    simp only [N_lit, N_add]
    exact v1
theorem bk_moves (hk : k ≤ 6) (hA : AA μ M) : ∀ (m i : Nat) (μ1 : jM), i + m = k → FKb M μ μ1 → QS μ1 M → AA μ1 M → jiv μ1 M 14 = N k → (∀ h, h < 4 → GW μ1 (mA M h)) → (∀ j, j < i → ∀ g, g < 3 → rG μ1 (aA M j g) = rG μ (aA M (7 + j) g)) → ∃ μ', jR (d + 2) 260 40 [.ref M, .int (N i)] [] μ1 = jR (d + 2) 260 40 [.ref M, .int (N k)] [] μ' ∧ FKb M μ μ' ∧ QS μ' M ∧ AA μ' M ∧ jiv μ' M = jiv μ1 M ∧ (∀ h, h < 4 → GW μ' (mA M h) ∧ rG μ' (mA M h) = rG μ1 (mA M h)) ∧ (∀ j, j < k → ∀ g, g < 3 → rG μ' (aA M j g) = rG μ (aA M (7 + j) g)) := by
  intro m
  induction m with
  | zero =>
    intro i μ1 hi F q a h14 hm hv
    have : i = k := by omega
    subst this
    exact ⟨μ1, rfl, F, q, a, rfl, fun h hh => ⟨hm h hh, rfl⟩, hv⟩
  | succ m ih =>
    intro i μ1 hi F q a h14 hm hv
    obtain ⟨μ2, c1, f2, a2, r2⟩ := r_moveAside (d := d) (t := 7 + i) (s := i) q (by omega) (by omega) (by omega) (a (7 + i) (by omega)) (a i (by omega))
    have i2 := f2.iM (by omega)
    obtain ⟨μ', v1, v2, v3, v4, v5, v6, v7⟩ := ih (i + 1) μ2 (by omega) (F.trans (f2.fu (by omega)).fk) (f2.qs (by omega) q) (f2.aa (by omega) a2 a) (by rw [i2]; exact h14) (fun h hh => (f2.main (by omega) hh (hm h hh)).1) (fun j hj g hg => by
      by_cases e : j = i
      · subst e
        rw [r2 g hg]; exact (F.rest (by omega) (by omega) (by omega) (hA (7 + j) (by omega) g (by omega))).2
      · rw [(f2.other (by omega) (show j < 14 by omega) (by omega) (by omega) (a j (by omega) g (by omega))).2]
        exact hv j (by omega) g hg)
    refine ⟨μ', ?_, v2, v3, v4, by rw [v5, i2], fun h hh => ?_, v7⟩
    · rw [b260_40]
      simp only [gI13, gR13, pI13, pR13, rv13, q.k13, if_true, Option.bind_some, h14]
      rw [if_pos (by rw [N_lt (by omega) (by omega)]; omega)]
      have e7 : (7 : Int32) + N i = N (7 + i) := by rw [show (7 : Int32) = N 7 from rfl, N_add]
      simp only [e7, Option.bind_some, Option.bind_none, if_true, if_false, true_or, or_true, false_or, or_false, true_and, and_true, false_and, and_false, decide_eq_true_eq, decide_true, decide_false, eq_self, not_true_eq_false, not_false_eq_true, jfit0, N_lit, N_add, N_mul, NEG_eq, pl_none, pl_some, rf_some, rf_none, jun_ref, jun_null, ir_ref, ir_null, jr_rf, jun_rf, Option.toList_some, Option.toList_none, List.nil_append, List.cons_append, c1]
      rw [b260_57]
      simp only [N_lit, N_add]
      exact v1
    · obtain ⟨x1, x2⟩ := v6 h hh
      exact ⟨x1, x2.trans (f2.main (by omega) hh (hm h hh)).2⟩
theorem p_back (h : MR μ M σ) : ROP M (jC (d + 2) 260 [.ref M] μ) μ (o_back σ) := by
  obtain ⟨hq, hA, hg, hr, hu, hi, ht, hc, hmm, hs⟩ := id h
  have k13 := hq.k13
  have st : jC (d + 2) 260 [.ref M] μ = jR (d + 2) 260 0 [.ref M, .retAddr 0] [] μ := by
    rw [jC_run (by decide)]
    rfl
  unfold o_back
  rcases hi with ⟨e, e49⟩ | ⟨b, e, e49, b1, b2, b3, b4, b5⟩
  · rw [e, st, b260_0]
    simp only [gI13, gR13, pI13, pR13, rv13, k13, if_true, Option.bind_some]
    rw [if_pos (show jiv μ M 49 = 0 from e49)]
    exact ⟨μ, rfl, FR.refl, h⟩
  · rw [e]
    have gm : ∀ g, g < 4 → GW μ (mA M g) := fun g hg4 => (hg g hg4).1.gw
    obtain ⟨μ1, c1, F1, Q1, A1, i1, m1, r1⟩ := bk_lays (d := d) hA 4 0 μ (by decide) FKb.refl hq hA gm (fun h hh => by omega)
    have i50 : jiv μ1 M 50 = N b.2.2.length := by rw [i1]; exact b4
    have F2 : FKb M μ (jsetI μ1 M 14 (N b.2.2.length)) := F1.trans ⟨Fx.setI Fx.refl (Or.inl ⟨Nat.le_refl _, by omega⟩), fun j h1 h2 h3 => ivj h1⟩
    obtain ⟨μ3, c3, F3, Q3, A3', i3, m3, r3⟩ := bk_moves (d := d) b3 hA b.2.2.length 0 _ (by omega) F2 (F2.qs hq) (fun t ht g hg => aA_setM.2 (A1 t ht g hg)) (if_pos ⟨rfl, rfl⟩) (fun h hh => mA_setM.2 (m1 h hh)) (fun j hj => by omega)
    have k13' := Q3.k13
    obtain ⟨q6, q7, k27, k28⟩ := Q3.fr
    obtain ⟨q5, k15, l15⟩ : jrv μ3 M 51 = some (M + 415) ∧ jk μ3 (M + 415) = 20 ∧ jl μ3 (M + 415) = 6 := ⟨Q3.2.1 51 415 rfl, Q3.kd (o := 415) (by decide) rfl⟩
    have s1 := cp_N (μ := μ3) (a := M + 415) (b := M + 27) (sp := 0) (dp := 0) (n0 := 3) k15 k27.1 (by rw [l15]; decide) (by rw [k27.2]; decide) (by rw [l15]; decide) (by rw [k27.2]; decide)
    have s2 := cp_N (μ := jrowI μ3 (M + 27) (va_cpy (jiv μ3 (M + 415)) (jiv μ3 (M + 27)) 0 0 3)) (a := M + 415) (b := M + 28) (sp := 3) (dp := 0) (n0 := 3) k15 k28.1 (by show 3 + 3 ≤ jl μ3 (M + 415); rw [l15]; decide) (by show 0 + 3 ≤ jl μ3 (M + 28); rw [k28.2]; decide) (by show jl μ3 (M + 415) < _; rw [l15]; decide) (by show jl μ3 (M + 28) < _; rw [k28.2]; decide)
    rw [iv_rowIn (show ¬ M + 415 = M + 27 by omega), iv_rowIn (show ¬ M + 28 = M + 27 by omega)] at s2
    have FX : Fx (fun a => a = M + 27 ∨ a = M + 28) (fun _ _ => False) μ3 (jrowI (jrowI μ3 (M + 27) (va_cpy (jiv μ3 (M + 415)) (jiv μ3 (M + 27)) 0 0 3)) (M + 28) (va_cpy (jiv μ3 (M + 415)) (jiv μ3 (M + 28)) 3 0 3)) := Fx.rowI (Fx.rowI Fx.refl (Or.inl rfl)) (Or.inr rfl)
    have e28 : jiv (jrowI (jrowI μ3 (M + 27) (va_cpy (jiv μ3 (M + 415)) (jiv μ3 (M + 27)) 0 0 3)) (M + 28) (va_cpy (jiv μ3 (M + 415)) (jiv μ3 (M + 28)) 3 0 3)) (M + 28) = va_cpy (jiv μ3 (M + 415)) (jiv μ3 (M + 28)) 3 0 3 := iv_rowIe
    have e27 : jiv (jrowI (jrowI μ3 (M + 27) (va_cpy (jiv μ3 (M + 415)) (jiv μ3 (M + 27)) 0 0 3)) (M + 28) (va_cpy (jiv μ3 (M + 415)) (jiv μ3 (M + 28)) 3 0 3)) (M + 27) = va_cpy (jiv μ3 (M + 415)) (jiv μ3 (M + 27)) 0 0 3 := by
      rw [iv_rowIn (show ¬ M + 27 = M + 28 by omega), iv_rowIe]
    generalize eμ : jrowI (jrowI μ3 (M + 27) (va_cpy (jiv μ3 (M + 415)) (jiv μ3 (M + 27)) 0 0 3)) (M + 28) (va_cpy (jiv μ3 (M + 415)) (jiv μ3 (M + 28)) 3 0 3) = μ4 at *
    have iM4 : jiv μ4 M = jiv μ3 M := FX.iv (by omega)
    have F4 : FKb M μ μ4 := F3.trans ⟨FX.mono (fun a k => by unfold SK; omega) (fun a j k => k.elim), fun j _ _ _ => congrFun iM4 j⟩
    have FS : FKb M μ4 (jsetI (jsetI μ4 M 35 (N 0)) M 36 (N 0)) := ⟨Fx.setI (Fx.setI Fx.refl (Or.inl ⟨Nat.le_refl _, by omega⟩)) (Or.inl ⟨Nat.le_refl _, by omega⟩), fun j h1 h2 h3 => by
      simp only [iv_setI, true_and]
      rw [if_neg h3, if_neg h2]⟩
    have F5 := F4.trans FS
    have Q4 := F4.qs hq
    have Q5 := F5.qs hq
    have s3 := r_stirs (d := d + 1) (μ := μ4) (M := M) Q4.k13
    have nA : ∀ t g, rG (jsetI (jsetI μ4 M 35 (N 0)) M 36 (N 0)) (aA M t g) = rG μ4 (aA M t g) ∧ (GW μ4 (aA M t g) → GW (jsetI (jsetI μ4 M 35 (N 0)) M 36 (N 0)) (aA M t g)) := fun t g => ⟨aA_setM.1.trans aA_setM.1, fun h => aA_setM.2 (aA_setM.2 h)⟩
    have nM : ∀ g, rG (jsetI (jsetI μ4 M 35 (N 0)) M 36 (N 0)) (mA M g) = rG μ4 (mA M g) ∧ (GW μ4 (mA M g) → GW (jsetI (jsetI μ4 M 35 (N 0)) M 36 (N 0)) (mA M g)) := fun g => ⟨mA_setM.1.trans mA_setM.1, fun h => mA_setM.2 (mA_setM.2 h)⟩
    have e35 : jiv (jsetI (jsetI μ4 M 35 (N 0)) M 36 (N 0)) M 35 = N 0 := by
      show (if M = M ∧ 35 = 36 then _ else if M = M ∧ 35 = 35 then _ else _) = _
      rw [if_neg (fun g => absurd g.2 (by decide)), if_pos ⟨rfl, rfl⟩]
    have e36 : jiv (jsetI (jsetI μ4 M 35 (N 0)) M 36 (N 0)) M 36 = N 0 := if_pos ⟨rfl, rfl⟩
    have e14 : jiv (jsetI (jsetI μ4 M 35 (N 0)) M 36 (N 0)) M 14 = N b.2.2.length := by
      show (if M = M ∧ 14 = 36 then _ else if M = M ∧ 14 = 35 then _ else jiv μ4 M 14) = _
      rw [if_neg (fun g => absurd g.2 (by decide)), if_neg (fun g => absurd g.2 (by decide)), iM4, i3]
      exact if_pos ⟨rfl, rfl⟩
    have i5 : ∀ a, a ≠ M → jiv (jsetI (jsetI μ4 M 35 (N 0)) M 36 (N 0)) a = jiv μ4 a := fun a ha => (iv_setIn ha).trans (iv_setIn ha)
    have fd : FD (M + 424) μ (jsetI (jsetI μ4 M 35 (N 0)) M 36 (N 0)) := F5.1.fd (fun a k => by unfold SK SU at k; omega) (fun a j k => by unfold TK TU at k; omega)
    have keep : ∀ t g, t < 14 → g < 4 → GW μ3 (aA M t g) → GW μ4 (aA M t g) ∧ rG μ4 (aA M t g) = rG μ3 (aA M t g) := fun t g ht hg hw => aA_keep FX (fun a h1 h2 q => by omega) (fun a j h1 h2 q => q) ht hg hw
    have keepM : ∀ g, g < 4 → GW μ3 (mA M g) → GW μ4 (mA M g) ∧ rG μ4 (mA M g) = rG μ3 (mA M g) := fun g hg hw => by
      refine FX.gw hw ?_ ?_ ?_ ?_ ?_ (fun j q => q)
      · show ¬ (M + 3 + g = M + 27 ∨ M + 3 + g = M + 28); omega
      · show ¬ (M + 8 + g = M + 27 ∨ M + 8 + g = M + 28); omega
      · show ¬ (M + 13 + g = M + 27 ∨ M + 13 + g = M + 28); omega
      · show ¬ (M + 18 + g = M + 27 ∨ M + 18 + g = M + 28); omega
      · exact congrFun (FX.iv (a := M + 1) (by omega)) _
    have iv : ∀ a, ¬ SK M a → jiv (jsetI (jsetI μ4 M 35 (N 0)) M 36 (N 0)) a = jiv μ a := fun a k => F5.1.iv k
    have iM5 : ∀ j, j ≠ 14 → j ≠ 35 → j ≠ 36 → jiv (jsetI (jsetI μ4 M 35 (N 0)) M 36 (N 0)) M j = jiv μ M j := F5.2
    have m5 : MR (jsetI (jsetI μ4 M 35 (N 0)) M 36 (N 0)) M (fgt (b, σ.2)) := by
      refine ⟨Q5, fun t ht g hg => (nA t g).2 (keep t g ht hg (A3' t ht g hg)).1, fun g hg4 => ?_, fun c hc => ?_, ⟨b3, e14, fun i v hv g hg3 => ?_⟩, ?_, ?_, ⟨Nat.zero_le _, e35, fun i c h => by cases h⟩, e36, fun i hi => ?_⟩
      · obtain ⟨z1, z2⟩ := b1 g hg4
        obtain ⟨w1, w2⟩ := m3 g hg4
        obtain ⟨y1, y2⟩ := keepM g hg4 w1
        obtain ⟨x1, x2⟩ := z1.to fd ((nM g).2 y1) ((nM g).1.trans (y2.trans (w2.trans (mA_setM.1.trans (r1 g hg4)))))
        exact ⟨x1, x2.trans z2⟩
      · obtain ⟨z1, z2⟩ := b2 c hc
        have w : jiv μ3 (M + 415) = jiv μ (M + 415) := F3.1.iv (by unfold SK SU; omega)
        rw [i5 (M + 27) (by omega), i5 (M + 28) (by omega), e27, e28]
        refine ⟨?_, ?_⟩
        · unfold va_cpy
          rw [if_pos (by omega), Nat.zero_add, Nat.sub_zero, w]; exact z1
        · unfold va_cpy
          rw [if_pos (by omega), Nat.sub_zero, w]; exact z2
      · have hv : b.2.2[i]? = some v := hv
        have hil : i < b.2.2.length := (List.getElem?_eq_some_iff.mp hv).1
        obtain ⟨z1, z2⟩ := b5 i v hv g hg3
        show GVR _ (M + 424) (aA M (b.2.2.length - 1 - i) g) ∧ dM _ (aA M (b.2.2.length - 1 - i) g) = v g
        obtain ⟨y1, y2⟩ := keep (b.2.2.length - 1 - i) g (by omega) (by omega) (A3' _ (by omega) g (by omega))
        obtain ⟨x1, x2⟩ := z1.to fd ((nA _ g).2 y1) ((nA _ g).1.trans (y2.trans (r3 (b.2.2.length - 1 - i) (by omega) g hg3)))
        exact ⟨x1, x2.trans z2⟩
      · exact h.2.2.2.2.2.1.keep fd (iM5 49 (by decide) (by decide) (by decide)) (iM5 50 (by decide) (by decide) (by decide)) (iv (M + 415) (by unfold SK SU; omega)) (fun t g h6 h14 h4 hw => F5.rest h14 h6 h4 hw)
      · obtain ⟨b1, b2, b3⟩ := ht
        exact ⟨b1, by rw [iM5 16 (by decide) (by decide) (by decide)]; exact b2, by rw [iv (M + 399) (by unfold SK SU; omega)]; exact b3⟩
      · rw [iv (M + 416) (by unfold SK SU; omega), iv (M + 417) (by unfold SK SU; omega), iv (M + 419 + i) (by unfold SK SU; omega)]
        exact hs i hi
    obtain ⟨G1, G2, G3, G4, G5⟩ := m5.gq (g := 3) (by decide)
    have ro := Q5.ro (g := 3) (by decide)
    rw [G1.2.1, ← G4] at ro
    have ro : jaI (jsetI (jsetI μ4 M 35 (N 0)) M 36 (N 0)) (.ref (M + 1)) 3 = some (N (b.1 3).length) := ro
    have st2 : jR (d + 2) 260 12 [.ref M, .int (N 4)] [] μ1 = jR (d + 2) 260 40 [.ref M, .int (N 0)] [] (jsetI μ1 M 14 (N b.2.2.length)) := by
      rw [b260_12, if_neg (by decide)]
      simp only [gI13, gR13, pI13, pR13, rv13, Option.bind_some, Option.bind_none, if_true, if_false, true_or, or_true, false_or, or_false, true_and, and_true, false_and, and_false, decide_eq_true_eq, decide_true, decide_false, eq_self, not_true_eq_false, not_false_eq_true, jfit0, N_lit, N_add, N_mul, NEG_eq, pl_none, pl_some, rf_some, rf_none, jun_ref, jun_null, ir_ref, ir_null, jr_rf, jun_rf, Option.toList_some, Option.toList_none, List.nil_append, List.cons_append, Q1.k13, i50, jfit0]
    have e14' : jiv μ3 M 14 = N b.2.2.length := by
      rw [i3]
      exact if_pos ⟨rfl, rfl⟩
    refine ⟨_, ?_, F5.fr, m5⟩
    rw [st, b260_0]
    simp only [gI13, gR13, pI13, pR13, rv13, k13, if_true, Option.bind_some]
    rw [if_neg (show ¬ jiv μ M 49 = 0 by rw [e49]; decide)]
    show jR (d + 2) 260 12 [.ref M, .int (N 0)] [] μ = _
    rw [c1, st2, c3, b260_40]
    simp only [gI13, gR13, pI13, pR13, rv13, k13', if_true, Option.bind_some, e14']
    rw [if_neg (by rw [N_lt (by omega) (by omega)]; omega)]
    simp only [gI13, gR13, pI13, pR13, rv13, k13', if_true, Option.bind_some, rf_some, q6, q5]
    have s1 : jcp μ3 (.ref (M + 415)) 0 (.ref (M + 27)) 0 3 = _ := s1
    rw [s1]
    have kk : ∀ f, jk (jrowI μ3 (M + 27) f) = jk μ3 := fun f => rfl
    have rr : ∀ f, jrv (jrowI μ3 (M + 27) f) = jrv μ3 := fun f => rfl
    simp only [gI13, gR13, pI13, pR13, rv13, kk, rr, k13', if_true, Option.bind_some, rf_some, q7, q5]
    have s2 : jcp (jrowI μ3 (M + 27) (va_cpy (jiv μ3 (M + 415)) (jiv μ3 (M + 27)) 0 0 3)) (.ref (M + 415)) 3 (.ref (M + 28)) 0 3 = some μ4 := s2
    rw [s2]
    simp only [gI13, gR13, pI13, pR13, rv13, Option.bind_some, Option.bind_none, if_true, if_false, true_or, or_true, false_or, or_false, true_and, and_true, false_and, and_false, decide_eq_true_eq, decide_true, decide_false, eq_self, not_true_eq_false, not_false_eq_true, jfit0, N_lit, N_add, N_mul, NEG_eq, pl_none, pl_some, rf_some, rf_none, jun_ref, jun_null, ir_ref, ir_null, jr_rf, jun_rf, Option.toList_some, Option.toList_none, List.nil_append, List.cons_append, Q4.k13, s3]
    rw [b260_95]
    simp only [gI13, gR13, pI13, pR13, rv13, Q5.k13, Q5.f.1, if_true, Option.bind_some, rf_some, ro]
end LAY
