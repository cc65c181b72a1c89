/-! THE LAW: values, and one call -/
section LAW
variable {μ μ' μ1 μ2 : jM} {X S n i k w d : Nat} {f : Nat → Int32} {σ σ' : SG}
theorem lg_self (x : Int64) : lg_cmp x x = 0 := by
  unfold lg_cmp
  simp
theorem law_value (h : LWS μ X S n f σ) (hi : i + 7 ≤ n) : ∃ μ' σ', jR (d + 460) 10 593 [.ref S, .ref X, .ref (X + 342), .int (N i)] [] μ = jR (d + 460) 10 1254 [.ref S, .ref X, .ref (X + 342), .int (N i)] [] μ' ∧ LWS μ' X S n f σ' ∧ Gw 404 10500 μ μ' := by
  have t1 : ∃ μ', jC (d + 459) 29 [.ref X, .int (f (i + 1)), .int (f (i + 2)), .int (f (i + 3))] μ = some (some (.long (o_value σ (f (i + 1)) (f (i + 2)) (f (i + 3)))), μ') ∧ XT μ X μ' σ 0 0 := t_value (d := d + 356) h.1 h.2.1 (fun i hi => h.2.2.2.1.kz i hi)
  obtain ⟨μ1, c1, T1⟩ := t1
  have m1 := h.mid T1
  have p1 : ∃ μ', jC (d + 459) 218 [.ref (X + 342), .int (f (i + 1)), .int (f (i + 2)), .int (f (i + 3))] μ1 = some (some (.long (o_value σ (f (i + 1)) (f (i + 2)) (f (i + 3)))), μ') ∧ FR (X + 342) μ1 μ' ∧ MR μ' (X + 342) σ := p_value (d := d + 8) m1.2.2.1 (f (i + 1)) (f (i + 2)) (f (i + 3))
  obtain ⟨μ2, c2, F2, r2⟩ := p1
  have F2 := F2.fa m1.1.1
  have s1 := h.2.2.2.2
  have a1 : jaI μ (.ref S) (N i + 1) = some (f (i + 1)) := s1.at1 (k := 1) (by omega)
  have a2 : jaI μ (.ref S) (N i + 2) = some (f (i + 2)) := s1.at1 (k := 2) (by omega)
  have a3 : jaI μ (.ref S) (N i + 3) = some (f (i + 3)) := s1.at1 (k := 3) (by omega)
  have e1 : jaI μ1 (.ref S) (N i + 1) = some (f (i + 1)) := m1.2.2.2.at1 (k := 1) (by omega)
  have e2 : jaI μ1 (.ref S) (N i + 2) = some (f (i + 2)) := m1.2.2.2.at1 (k := 2) (by omega)
  have e3 : jaI μ1 (.ref S) (N i + 3) = some (f (i + 3)) := m1.2.2.2.at1 (k := 3) (by omega)
  refine ⟨μ2, _, ?_, m1.fin F2 r2 h.2.2.2.1, ((Gw.of T1.1).trans (Gw.of F2)).up (by decide) (by decide)⟩
  rw [b10_593 (h0 := ir_ref)]
  simp only [gI12, gR12, pI12, pR12, rv12, h.k12, a1, a2, a3, if_true, c1, Option.bind_some]
  show jR (d + 460) 10 612 [.ref S, .ref X, .ref (X + 342), .int (N i)] [.long (o_value σ (f (i + 1)) (f (i + 2)) (f (i + 3)))] μ1 = _
  rw [b10_612 (h0 := ir_ref)]
  simp only [gI13, gR13, pI13, pR13, rv13, m1.k13, e1, e2, e3, if_true, c2, Option.bind_some]
  show jR (d + 460) 10 631 [.ref S, .ref X, .ref (X + 342), .int (N i)] [.long (o_value σ (f (i + 1)) (f (i + 2)) (f (i + 3))), .long (o_value σ (f (i + 1)) (f (i + 2)) (f (i + 3)))] μ2 = _
  rw [b10_631 (h0 := ir_ref), if_pos (lg_self _)]
end LAW
