/-! THE REFERENCE's CALLS: notes -/
section LAY
variable {μ μ' ν : jM} {S S' : Nat → Prop} {T T' : Nat → Nat → Prop} {M g h t s n w d D i j k x y a b c : Nat} {A B C : GA} {σ : SG}
/-- a cell's place, where there is one -/
theorem cell3 {n : Nat} {x z : Int32} {q : Nat × Nat × Nat} (hn : n < 2147483648) (h : ((ix n x).bind fun r => (ix 3 z).map fun c => (g, r, c)) = some q) : ∃ r c, q = (g, r, c) ∧ x = N r ∧ z = N c ∧ r < n ∧ c < 3 := by
  cases e1 : ix n x with
  | none => rw [e1] at h; cases h
  | some r =>
    cases e2 : ix 3 z with
    | none => rw [e1, e2] at h; cases h
    | some c =>
      rw [e1, e2] at h
      obtain ⟨a1, a2⟩ := ix_some hn e1
      obtain ⟨b1, b2⟩ := ix_some (by decide) e2
      cases h
      exact ⟨r, c, rfl, a1, b1, a2, b2⟩
theorem gq_putT (hG : GQ μ M g) {v : Int32} : GQ (putT μ (mA M g) a v) M g := by
  obtain ⟨hg, g1, g8, gf⟩ := hG
  have ev : vN (putT μ (mA M g) a v) (mA M g) = vN μ (mA M g) := vN_putT (mA_ok hg)
  refine ⟨hg, ?_, by rw [ev]; exact g8, gf⟩
  rw [ev]
  show (if M + 1 = M + 18 + g ∧ g = a then v else jiv μ (M + 1) g) = _
  rw [if_neg (fun q => by omega)]; exact g1
theorem putT_f1 (hg : g < 4) {v : Int32} : FM1 M g μ (putT μ (mA M g) a v) := by
  refine ⟨Fx.setI Fx.refl (Or.inr (Or.inr (Or.inr (Or.inr rfl)))), fun j _ => ?_⟩
  show (if M + 1 = M + 18 + g ∧ j = a then v else jiv μ (M + 1) j) = _
  rw [if_neg (fun q => by omega)]
/-- a cell of a grid as it is read -/
theorem cO_rc {c0 r0 : Nat} (hc : c0 < 3) (hr : r0 < vN μ A) : cO none (rG μ A) (some r0) c0 = rc μ A (r0 * 3 + c0) := by
  have e : (rG μ A)[r0]? = some (jiv μ (A.1 1) r0, rc μ A (r0 * 3), rc μ A (r0 * 3 + 1), rc μ A (r0 * 3 + 2)) := mkL_get hr
  show (((rG μ A)[r0]?).map fun w => rcol w c0).getD _ = _
  rw [e]
  rcases (show c0 = 0 ∨ c0 = 1 ∨ c0 = 2 by omega) with rfl | rfl | rfl <;> rfl
theorem p_note (h : MR μ M σ) (g r c v : Int32) : ROP M (jC (d + 3) 203 [.ref M, .int g, .int r, .int c, .int v] μ) μ (o_note σ g r c v) := by
  have hq := h.1
  have bad : jR (d + 3) 203 28 [.ref M, .int g, .int r, .int c, .int v, .retAddr 0] [] μ = some (some (.int aBAD), μ) := b203_28 ..
  have st : jC (d + 3) 203 [.ref M, .int g, .int r, .int c, .int v] μ = jR (d + 3) 203 4 [.ref M, .int g, .int r, .int c, .int v, .retAddr 0] [.int (okI (ix 3 g))] μ := by
    rw [jC_run (by decide)]
    show jR (d + 3) 203 0 [.ref M, .int g, .int r, .int c, .int v, .retAddr 0] [] μ = _
    rw [b203_0, r_ver]
    rfl
  rw [st, b203_4]
  unfold o_note cix
  cases eg : ix 3 g with
  | none =>
    rw [if_pos (by rw [okI_0])]
    exact ⟨μ, bad, FR.refl, h⟩
  | some g0 =>
    obtain ⟨rfl, hg⟩ := ix_some (by decide) eg
    have hg4 : g0 < 4 := by omega
    obtain ⟨G1, G2, G3, G4, G5⟩ := h.gq hg4
    have rc1 := r_cell (d := d) hq (fun g hg => (h.2.2.1 g hg).1.gw) (N g0) r c
    rw [ix_N (by decide) hg4] at rc1
    rw [if_neg (by rw [okI_0]; simp)]
    simp only [gI13, gR13, pI13, pR13, rv13, hq.k13, if_true, jun_ref, rc1, Option.bind_some, G4]
    show ROP M (jR (d + 3) 203 14 [.ref M, .int (N g0), .int r, .int c, .int v, .retAddr 0] [.int (okI ((ix (vN μ (mA M g0)) r).bind fun r => (ix 3 c).map fun c => (g0, r, c)))] μ) μ _
    rw [b203_14]
    cases eq : ((ix (vN μ (mA M g0)) r).bind fun r => (ix 3 c).map fun c => (g0, r, c)) with
    | none =>
      rw [if_pos (by rw [okI_0])]
      exact ⟨μ, bad, FR.refl, h⟩
    | some q =>
      obtain ⟨r0, c0, rfl, rfl, rfl, hr, hc⟩ := cell3 (by omega) eq
      rw [if_neg (by rw [okI_0]; simp), r_btw]
      show ROP M (jR (d + 3) 203 25 [.ref M, .int (N g0), .int (N r0), .int (N c0), .int v, .retAddr 0] [.int (if v < N 0 ∨ N 99 < v then N 0 else N 1)] μ) μ (if v < N 0 ∨ N 99 < v then (aBAD, σ) else ((cO [] (σ.1.1 g0) (some r0) c0).2.2.2, stg (chg σ) g0 (lset (σ.1.1 g0) (some r0) c0 (fun w => (w.1, w.2.1, w.2.2.1, v)))))
      rw [b203_25]
      by_cases hk : v < N 0 ∨ N 99 < v
      · rw [if_pos hk, if_pos hk, if_pos (by decide)]
        exact ⟨μ, bad, FR.refl, h⟩
      · rw [if_neg hk, if_neg hk, if_neg (by decide)]
        obtain ⟨μ1, c1, F1, h1⟩ := h.chg (d := d)
        obtain ⟨H1, H2, H3, H4, H5⟩ := h1.gq hg4
        have hv1 : vN μ1 (mA M g0) = vN μ (mA M g0) := by rw [← H4, ← G4]; rfl
        have gg := h1.1.gk hg4
        have e1 := ent_get (μ := μ1) (i := r0 * 3 + c0) gg.2.2.2.1.1 gg.2.2.2.1.2 (by omega) (by decide)
        have e2 := ent_set (μ := μ1) (i := r0 * 3 + c0) (v := v) gg.2.2.2.1.1 gg.2.2.2.1.2 (by omega) (by decide)
        have hA := mA_ok (M := M) hg4
        have e3 := rG_putT (μ := μ1) (i := r0) (t := v) hA hc
        have h2 := h1.grid hg4 (putT_f1 (μ := μ1) (a := r0 * 3 + c0) (v := v) hg4) (gq_putT H1) e3 (fun w hw => by
          obtain ⟨j, hj⟩ := List.mem_iff_getElem?.mp hw
          rw [List.getElem?_modify] at hj
          cases e : (rG μ1 (mA M g0))[j]? with
          | none => rw [e] at hj; cases hj
          | some w0 =>
            rw [e] at hj
            obtain ⟨k1, k2, k3⟩ := H3 w0 (List.mem_of_getElem? e)
            by_cases ej : r0 = j
            · simp only [if_pos ej, Option.map_eq_map, Option.map_some, Option.some.injEq] at hj
              subst hj
              rcases (show c0 = 0 ∨ c0 = 1 ∨ c0 = 2 by omega) with rfl | rfl | rfl
              · exact ⟨k1, k2, k3⟩
              · exact ⟨k1, k2, k3⟩
              · exact ⟨k1, k2, k3⟩
            · simp only [if_neg ej, Option.map_eq_map, Option.map_some, Option.some.injEq] at hj
              subst hj
              exact ⟨k1, k2, k3⟩)
        rw [map_modify (f' := fun w => rset w c0 ((rcol w c0).1, (rcol w c0).2.1, (rcol w c0).2.2.1, v)) (fun x => by
          rcases (show c0 = 0 ∨ c0 = 1 ∨ c0 = 2 by omega) with rfl | rfl | rfl <;> rfl), ← H2] at h2
        have ek : jiv μ1 (M + 18 + g0) (r0 * 3 + c0) = (cO [] (σ.1.1 g0) (some r0) c0).2.2.2 := by
          have e : (chg σ).1.1 g0 = σ.1.1 g0 := rfl
          rw [← e, H2, cO_map (F := mF μ1) (z := none) (z' := []) rfl, cO_rc hc (by omega)]
          rfl
        simp only [gI13, gR13, pI13, pR13, rv13, Option.bind_some, Option.bind_none, if_true, if_false, true_or, or_true, false_or, or_false, true_and, and_true, false_and, and_false, decide_eq_true_eq, decide_true, decide_false, eq_self, not_true_eq_false, not_false_eq_true, jfit0, N_lit, N_add, N_mul, NEG_eq, pl_none, pl_some, rf_some, rf_none, jun_ref, jun_null, ir_ref, ir_null, jr_rf, jun_rf, Option.toList_some, Option.toList_none, List.nil_append, List.cons_append, hq.k13, c1]
        rw [b203_35]
        simp only [gI13, gR13, pI13, pR13, rv13, Option.bind_some, Option.bind_none, if_true, if_false, true_or, or_true, false_or, or_false, true_and, and_true, false_and, and_false, decide_eq_true_eq, decide_true, decide_false, eq_self, not_true_eq_false, not_false_eq_true, jfit0, N_lit, N_add, N_mul, NEG_eq, pl_none, pl_some, rf_some, rf_none, jun_ref, jun_null, ir_ref, ir_null, jr_rf, jun_rf, Option.toList_some, Option.toList_none, List.nil_append, List.cons_append, Nat.mul_comm 3, h1.1.k13, h1.1.f.2.2.2.2.1, (h1.1.gr hg4).2.2.2.1, e1, e2]
        exact ⟨putT μ1 (mA M g0) (r0 * 3 + c0) v, by rw [ek]; rfl, F1.fr.trans ((putT_f1 hg4).fr hg4), h2⟩
end LAY
