/-! THE REFERENCE's CALLS: grids made like others; notes -/
section LAY
variable {μ μ' ν : jM} {S S' : Nat → Prop} {T T' : Nat → Nat → Prop} {M g h t s n w d D i j k x y a b c : Nat} {A B C : GA} {σ : SG}
theorem p_like (h : MR μ M σ) (g o : Int32) : ROP M (jC (d + 3) 206 [.ref M, .int g, .int o] μ) μ (o_like σ g o) := by
  have hq := h.1
  have bad : jR (d + 3) 206 19 [.ref M, .int g, .int o] [] μ = some (some (.int aBAD), μ) := b206_19 ..
  have st : jC (d + 3) 206 [.ref M, .int g, .int o] μ = jR (d + 3) 206 4 [.ref M, .int g, .int o] [.int (okI (ix 3 g))] μ := by
    rw [jC_run (by decide)]
    show jR (d + 3) 206 0 [.ref M, .int g, .int o] [] μ = _
    rw [b206_0, r_ver]
    rfl
  rw [st, b206_4]
  unfold o_like
  cases eg : ix 3 g with
  | none =>
    rw [if_pos (by rw [okI_0])]
    exact ⟨μ, bad, FR.refl, h⟩
  | some g0 =>
    obtain ⟨rfl, hg⟩ := ix_some (by decide) eg
    have hg4 : g0 < 4 := by omega
    rw [if_neg (by rw [okI_0]; simp), r_grid]
    show ROP M (jR (d + 3) 206 11 [.ref M, .int (N g0), .int o] [.int (okI (ix 4 o))] μ) μ _
    rw [b206_11]
    cases eo : ix 4 o with
    | none =>
      rw [if_pos (by rw [okI_0])]
      exact ⟨μ, bad, FR.refl, h⟩
    | some o0 =>
      obtain ⟨rfl, ho⟩ := ix_some (by decide) eo
      rw [if_neg (by rw [okI_0]; simp)]
      show ROP M _ μ (if g0 = o0 then (aBAD, σ) else (N (σ.1.1 o0).length, stg (chg σ) g0 (σ.1.1 o0)))
      by_cases e : g0 = o0
      · rw [if_pos e, if_pos (by rw [e])]
        exact ⟨μ, bad, FR.refl, h⟩
      · rw [if_neg e, if_neg (by rw [N_inj (by omega) (by omega)]; exact e)]
        obtain ⟨μ1, c1, F1, h1⟩ := h.chg (d := d)
        obtain ⟨H1, H2, H3, H4, H5⟩ := h1.gq hg4
        obtain ⟨K1, K2, K3, K4, K5⟩ := h1.gq ho
        obtain ⟨μ2, c2, F2, H6, e2⟩ := r_copyGrid (d := d) h1.1 K1 H1 (fun q => e q.symm)
        have h2 := h1.grid hg4 F2 H6 e2 K3
        rw [← K2] at h2
        have ro2 := h2.1.ro hg4
        have ev : vN μ2 (mA M g0) = (σ.1.1 o0).length := by
          rw [← len_rG, e2, len_rG, ← K4]; rfl
        rw [H6.2.1, ev] at ro2
        simp only [gI13, gR13, pI13, pR13, rv13, Option.bind_some, Option.bind_none, if_true, if_false, true_or, or_true, false_or, or_false, true_and, and_true, false_and, and_false, decide_eq_true_eq, decide_true, decide_false, eq_self, not_true_eq_false, not_false_eq_true, jfit0, N_lit, N_add, N_mul, NEG_eq, pl_none, pl_some, rf_some, rf_none, jun_ref, jun_null, ir_ref, ir_null, jr_rf, jun_rf, Option.toList_some, Option.toList_none, List.nil_append, List.cons_append, hq.k13, c1]
        rw [b206_26]
        simp only [gI13, gR13, pI13, pR13, rv13, Option.bind_some, Option.bind_none, if_true, if_false, true_or, or_true, false_or, or_false, true_and, and_true, false_and, and_false, decide_eq_true_eq, decide_true, decide_false, eq_self, not_true_eq_false, not_false_eq_true, jfit0, N_lit, N_add, N_mul, NEG_eq, pl_none, pl_some, rf_some, rf_none, jun_ref, jun_null, ir_ref, ir_null, jr_rf, jun_rf, Option.toList_some, Option.toList_none, List.nil_append, List.cons_append, h1.1.k13, c2]
        rw [b206_32]
        simp only [gI13, gR13, pI13, pR13, rv13, Option.bind_some, Option.bind_none, if_true, if_false, true_or, or_true, false_or, or_false, true_and, and_true, false_and, and_false, decide_eq_true_eq, decide_true, decide_false, eq_self, not_true_eq_false, not_false_eq_true, jfit0, N_lit, N_add, N_mul, NEG_eq, pl_none, pl_some, rf_some, rf_none, jun_ref, jun_null, ir_ref, ir_null, jr_rf, jun_rf, Option.toList_some, Option.toList_none, List.nil_append, List.cons_append, h2.1.k13, h2.1.f.1, ro2]
        exact ⟨μ2, rfl, F1.fr.trans (F2.fr hg4), h2⟩
theorem map_modify {α β : Type} {F : α → β} {f : α → α} {f' : β → β} {l : List α} (hf : ∀ x, F (f x) = f' (F x)) : (l.modify i f).map F = (l.map F).modify i f' := by
  refine List.ext_getElem? fun j => ?_
  rw [List.getElem?_map, List.getElem?_modify, List.getElem?_modify, List.getElem?_map]
  cases l[j]? with
  | none => rfl
  | some x =>
    by_cases e : i = j
    · simp [e, hf]
    · simp [e]
end LAY
