/-! THE LAW: its cases, laid by program (genlaw.py) -/
section LAW
variable {μ μ' μ1 μ2 : jM} {X S n i k w d : Nat} {f : Nat → Int32} {σ σ' : SG}
theorem law_feed (h : LWS μ X S n f σ) (hi : i + 7 ≤ n) : ∃ μ' σ', jR (d + 460) 10 164 [.ref S, .ref X, .ref (X + 342), .int (N i)] [] μ = jR (d + 460) 10 1254 [.ref S, .ref X, .ref (X + 342), .int (N i)] [] μ' ∧ LWS μ' X S n f σ' ∧ Gw 404 10500 μ μ' := by
  have t1 : OP (d + 459) 12 [.ref X, .int (f (i + 1)), .int (f (i + 2)), .int (f (i + 3)), .int (f (i + 4)), .int (f (i + 5)), .int (f (i + 6))] μ X (o_feed σ (f (i + 1)) (f (i + 2)) (f (i + 3)) (f (i + 4)) (f (i + 5)) (f (i + 6))) 1 5 := t_feed (d := d + 457) h.1 h.2.1 
  obtain ⟨μ1, c1, T1⟩ := t1
  have m1 := h.mid T1
  obtain ⟨B, hB, hx⟩ := m1.kx
  have p1 : ROP (X + 342) (jC (d + 459) 164 [.ref (X + 342), .int (f (i + 1)), .int (f (i + 2)), .int (f (i + 3)), .int (f (i + 4)), .int (f (i + 5)), .int (f (i + 6))] μ1) μ1 (o_feed σ (f (i + 1)) (f (i + 2)) (f (i + 3)) (f (i + 4)) (f (i + 5)) (f (i + 6))) := p_feed (d := d + 457) m1.2.2.1  (f (i + 1)) (f (i + 2)) (f (i + 3)) (f (i + 4)) (f (i + 5)) (f (i + 6))
  obtain ⟨μ2, c2, F2, r2⟩ := p1.lm m1.1.1
  have s1 := h.2.2.2.2
  have a1 : jaI μ (.ref S) (N i + 1) = some (f (i + 1)) := s1.at1 (k := 1) (by omega)
  have a2 : jaI μ (.ref S) (N i + 2) = some (f (i + 2)) := s1.at1 (k := 2) (by omega)
  have a3 : jaI μ (.ref S) (N i + 3) = some (f (i + 3)) := s1.at1 (k := 3) (by omega)
  have a4 : jaI μ (.ref S) (N i + 4) = some (f (i + 4)) := s1.at1 (k := 4) (by omega)
  have a5 : jaI μ (.ref S) (N i + 5) = some (f (i + 5)) := s1.at1 (k := 5) (by omega)
  have a6 : jaI μ (.ref S) (N i + 6) = some (f (i + 6)) := s1.at1 (k := 6) (by omega)
  have e1 : jaI μ1 (.ref S) (N i + 1) = some (f (i + 1)) := m1.2.2.2.at1 (k := 1) (by omega)
  have e2 : jaI μ1 (.ref S) (N i + 2) = some (f (i + 2)) := m1.2.2.2.at1 (k := 2) (by omega)
  have e3 : jaI μ1 (.ref S) (N i + 3) = some (f (i + 3)) := m1.2.2.2.at1 (k := 3) (by omega)
  have e4 : jaI μ1 (.ref S) (N i + 4) = some (f (i + 4)) := m1.2.2.2.at1 (k := 4) (by omega)
  have e5 : jaI μ1 (.ref S) (N i + 5) = some (f (i + 5)) := m1.2.2.2.at1 (k := 5) (by omega)
  have e6 : jaI μ1 (.ref S) (N i + 6) = some (f (i + 6)) := m1.2.2.2.at1 (k := 6) (by omega)
  refine ⟨μ2, _, ?_, m1.fin F2 r2 (w_feed h.2.2.2.1 (f (i + 1)) (f (i + 2)) (f (i + 3)) (f (i + 4)) (f (i + 5)) (f (i + 6))), ((Gw.of T1.1).trans (Gw.of F2)).up (by decide) (by decide)⟩
  rw [b10_164 (h0 := ir_ref)]
  simp only [gI12, gR12, pI12, pR12, rv12, h.k12, a1, a2, a3, a4, a5, a6, if_true, c1, Option.bind_some]
  show jR (d + 460) 10 199 [.ref S, .ref X, .ref (X + 342), .int (N i)] [.int (o_feed σ (f (i + 1)) (f (i + 2)) (f (i + 3)) (f (i + 4)) (f (i + 5)) (f (i + 6))).1] μ1 = _
  rw [b10_199 (h0 := ir_ref)]
  simp only [gI13, gR13, pI13, pR13, rv13, m1.k13, e1, e2, e3, e4, e5, e6, if_true, c2, Option.bind_some]
  show jR (d + 460) 10 234 [.ref S, .ref X, .ref (X + 342), .int (N i)] [.int (o_feed σ (f (i + 1)) (f (i + 2)) (f (i + 3)) (f (i + 4)) (f (i + 5)) (f (i + 6))).1, .int (o_feed σ (f (i + 1)) (f (i + 2)) (f (i + 3)) (f (i + 4)) (f (i + 5)) (f (i + 6))).1] μ2 = _
  rw [b10_234 (h0 := ir_ref), if_pos rfl]
theorem law_write (h : LWS μ X S n f σ) (hi : i + 7 ≤ n) : ∃ μ' σ', jR (d + 460) 10 239 [.ref S, .ref X, .ref (X + 342), .int (N i)] [] μ = jR (d + 460) 10 1254 [.ref S, .ref X, .ref (X + 342), .int (N i)] [] μ' ∧ LWS μ' X S n f σ' ∧ Gw 404 10500 μ μ' := by
  have t1 : OP (d + 459) 14 [.ref X, .int (f (i + 1)), .int (f (i + 2)), .int (f (i + 3))] μ X (o_write σ (f (i + 1)) (f (i + 2)) (f (i + 3))) 5 164 := t_write (d := d + 435) h.1 h.2.1 (fun i hi => h.2.2.2.1.kk i (by omega))
  obtain ⟨μ1, c1, T1⟩ := t1
  have m1 := h.mid T1
  obtain ⟨B, hB, hx⟩ := m1.kx
  have p1 : ROPa (X + 342) 1 80 (jC (d + 459) 167 [.ref (X + 342), .int (f (i + 1)), .int (f (i + 2)), .int (f (i + 3))] μ1) μ1 (o_write σ (f (i + 1)) (f (i + 2)) (f (i + 3))) := p_write (d := d + 426) m1.2.2.1 m1.1.1 m1.z hx (by omega) h.2.2.2.1.kk (f (i + 1)) (f (i + 2)) (f (i + 3))
  obtain ⟨μ2, c2, F2, r2⟩ := p1.up (by decide) (by decide)
  have s1 := h.2.2.2.2
  have a1 : jaI μ (.ref S) (N i + 1) = some (f (i + 1)) := s1.at1 (k := 1) (by omega)
  have a2 : jaI μ (.ref S) (N i + 2) = some (f (i + 2)) := s1.at1 (k := 2) (by omega)
  have a3 : jaI μ (.ref S) (N i + 3) = some (f (i + 3)) := s1.at1 (k := 3) (by omega)
  have e1 : jaI μ1 (.ref S) (N i + 1) = some (f (i + 1)) := m1.2.2.2.at1 (k := 1) (by omega)
  have e2 : jaI μ1 (.ref S) (N i + 2) = some (f (i + 2)) := m1.2.2.2.at1 (k := 2) (by omega)
  have e3 : jaI μ1 (.ref S) (N i + 3) = some (f (i + 3)) := m1.2.2.2.at1 (k := 3) (by omega)
  refine ⟨μ2, _, ?_, m1.fin F2 r2 (w_write h.2.2.2.1 (f (i + 1)) (f (i + 2)) (f (i + 3))), ((Gw.of T1.1).trans (Gw.of F2)).up (by decide) (by decide)⟩
  rw [b10_239 (h0 := ir_ref)]
  simp only [gI12, gR12, pI12, pR12, rv12, h.k12, a1, a2, a3, if_true, c1, Option.bind_some]
  show jR (d + 460) 10 258 [.ref S, .ref X, .ref (X + 342), .int (N i)] [.int (o_write σ (f (i + 1)) (f (i + 2)) (f (i + 3))).1] μ1 = _
  rw [b10_258 (h0 := ir_ref)]
  simp only [gI13, gR13, pI13, pR13, rv13, m1.k13, e1, e2, e3, if_true, c2, Option.bind_some]
  show jR (d + 460) 10 277 [.ref S, .ref X, .ref (X + 342), .int (N i)] [.int (o_write σ (f (i + 1)) (f (i + 2)) (f (i + 3))).1, .int (o_write σ (f (i + 1)) (f (i + 2)) (f (i + 3))).1] μ2 = _
  rw [b10_277 (h0 := ir_ref), if_pos rfl]
theorem law_row (h : LWS μ X S n f σ) (hi : i + 7 ≤ n) : ∃ μ' σ', jR (d + 460) 10 282 [.ref S, .ref X, .ref (X + 342), .int (N i)] [] μ = jR (d + 460) 10 1254 [.ref S, .ref X, .ref (X + 342), .int (N i)] [] μ' ∧ LWS μ' X S n f σ' ∧ Gw 404 10500 μ μ' := by
  have t1 : OP (d + 459) 21 [.ref X, .int (f (i + 1)), .int (f (i + 2)), .int (f (i + 3))] μ X (o_row σ (f (i + 1)) (f (i + 2)) (f (i + 3))) 0 0 := t_row (d := d + 455) h.1 h.2.1 
  obtain ⟨μ1, c1, T1⟩ := t1
  have m1 := h.mid T1
  obtain ⟨B, hB, hx⟩ := m1.kx
  have p1 : ROP (X + 342) (jC (d + 459) 193 [.ref (X + 342), .int (f (i + 1)), .int (f (i + 2)), .int (f (i + 3))] μ1) μ1 (o_row σ (f (i + 1)) (f (i + 2)) (f (i + 3))) := p_row (d := d + 456) m1.2.2.1  (f (i + 1)) (f (i + 2)) (f (i + 3))
  obtain ⟨μ2, c2, F2, r2⟩ := p1.lm m1.1.1
  have s1 := h.2.2.2.2
  have a1 : jaI μ (.ref S) (N i + 1) = some (f (i + 1)) := s1.at1 (k := 1) (by omega)
  have a2 : jaI μ (.ref S) (N i + 2) = some (f (i + 2)) := s1.at1 (k := 2) (by omega)
  have a3 : jaI μ (.ref S) (N i + 3) = some (f (i + 3)) := s1.at1 (k := 3) (by omega)
  have e1 : jaI μ1 (.ref S) (N i + 1) = some (f (i + 1)) := m1.2.2.2.at1 (k := 1) (by omega)
  have e2 : jaI μ1 (.ref S) (N i + 2) = some (f (i + 2)) := m1.2.2.2.at1 (k := 2) (by omega)
  have e3 : jaI μ1 (.ref S) (N i + 3) = some (f (i + 3)) := m1.2.2.2.at1 (k := 3) (by omega)
  refine ⟨μ2, _, ?_, m1.fin F2 r2 (w_row h.2.2.2.1 (f (i + 1)) (f (i + 2)) (f (i + 3))), ((Gw.of T1.1).trans (Gw.of F2)).up (by decide) (by decide)⟩
  rw [b10_282 (h0 := ir_ref)]
  simp only [gI12, gR12, pI12, pR12, rv12, h.k12, a1, a2, a3, if_true, c1, Option.bind_some]
  show jR (d + 460) 10 301 [.ref S, .ref X, .ref (X + 342), .int (N i)] [.int (o_row σ (f (i + 1)) (f (i + 2)) (f (i + 3))).1] μ1 = _
  rw [b10_301 (h0 := ir_ref)]
  simp only [gI13, gR13, pI13, pR13, rv13, m1.k13, e1, e2, e3, if_true, c2, Option.bind_some]
  show jR (d + 460) 10 320 [.ref S, .ref X, .ref (X + 342), .int (N i)] [.int (o_row σ (f (i + 1)) (f (i + 2)) (f (i + 3))).1, .int (o_row σ (f (i + 1)) (f (i + 2)) (f (i + 3))).1] μ2 = _
  rw [b10_320 (h0 := ir_ref), if_pos rfl]
theorem law_drop (h : LWS μ X S n f σ) (hi : i + 7 ≤ n) : ∃ μ' σ', jR (d + 460) 10 325 [.ref S, .ref X, .ref (X + 342), .int (N i)] [] μ = jR (d + 460) 10 1254 [.ref S, .ref X, .ref (X + 342), .int (N i)] [] μ' ∧ LWS μ' X S n f σ' ∧ Gw 404 10500 μ μ' := by
  have t1 : OP (d + 459) 22 [.ref X, .int (f (i + 1)), .int (f (i + 2))] μ X (o_drop σ (f (i + 1)) (f (i + 2))) 0 0 := t_drop (d := d + 455) h.1 h.2.1 
  obtain ⟨μ1, c1, T1⟩ := t1
  have m1 := h.mid T1
  obtain ⟨B, hB, hx⟩ := m1.kx
  have p1 : ROP (X + 342) (jC (d + 459) 199 [.ref (X + 342), .int (f (i + 1)), .int (f (i + 2))] μ1) μ1 (o_drop σ (f (i + 1)) (f (i + 2))) := p_drop (d := d + 456) m1.2.2.1  (f (i + 1)) (f (i + 2))
  obtain ⟨μ2, c2, F2, r2⟩ := p1.lm m1.1.1
  have s1 := h.2.2.2.2
  have a1 : jaI μ (.ref S) (N i + 1) = some (f (i + 1)) := s1.at1 (k := 1) (by omega)
  have a2 : jaI μ (.ref S) (N i + 2) = some (f (i + 2)) := s1.at1 (k := 2) (by omega)
  have e1 : jaI μ1 (.ref S) (N i + 1) = some (f (i + 1)) := m1.2.2.2.at1 (k := 1) (by omega)
  have e2 : jaI μ1 (.ref S) (N i + 2) = some (f (i + 2)) := m1.2.2.2.at1 (k := 2) (by omega)
  refine ⟨μ2, _, ?_, m1.fin F2 r2 (w_drop h.2.2.2.1 (f (i + 1)) (f (i + 2))), ((Gw.of T1.1).trans (Gw.of F2)).up (by decide) (by decide)⟩
  rw [b10_325 (h0 := ir_ref)]
  simp only [gI12, gR12, pI12, pR12, rv12, h.k12, a1, a2, if_true, c1, Option.bind_some]
  show jR (d + 460) 10 339 [.ref S, .ref X, .ref (X + 342), .int (N i)] [.int (o_drop σ (f (i + 1)) (f (i + 2))).1] μ1 = _
  rw [b10_339 (h0 := ir_ref)]
  simp only [gI13, gR13, pI13, pR13, rv13, m1.k13, e1, e2, if_true, c2, Option.bind_some]
  show jR (d + 460) 10 353 [.ref S, .ref X, .ref (X + 342), .int (N i)] [.int (o_drop σ (f (i + 1)) (f (i + 2))).1, .int (o_drop σ (f (i + 1)) (f (i + 2))).1] μ2 = _
  rw [b10_353 (h0 := ir_ref), if_pos rfl]
theorem law_move (h : LWS μ X S n f σ) (hi : i + 7 ≤ n) : ∃ μ' σ', jR (d + 460) 10 358 [.ref S, .ref X, .ref (X + 342), .int (N i)] [] μ = jR (d + 460) 10 1254 [.ref S, .ref X, .ref (X + 342), .int (N i)] [] μ' ∧ LWS μ' X S n f σ' ∧ Gw 404 10500 μ μ' := by
  have t1 : OP (d + 459) 24 [.ref X, .int (f (i + 1)), .int (f (i + 2)), .int (f (i + 3))] μ X (o_move σ (f (i + 1)) (f (i + 2)) (f (i + 3))) 0 0 := t_move (d := d + 455) h.1 h.2.1 
  obtain ⟨μ1, c1, T1⟩ := t1
  have m1 := h.mid T1
  obtain ⟨B, hB, hx⟩ := m1.kx
  have p1 : ROP (X + 342) (jC (d + 459) 201 [.ref (X + 342), .int (f (i + 1)), .int (f (i + 2)), .int (f (i + 3))] μ1) μ1 (o_move σ (f (i + 1)) (f (i + 2)) (f (i + 3))) := p_move (d := d + 456) m1.2.2.1  (f (i + 1)) (f (i + 2)) (f (i + 3))
  obtain ⟨μ2, c2, F2, r2⟩ := p1.lm m1.1.1
  have s1 := h.2.2.2.2
  have a1 : jaI μ (.ref S) (N i + 1) = some (f (i + 1)) := s1.at1 (k := 1) (by omega)
  have a2 : jaI μ (.ref S) (N i + 2) = some (f (i + 2)) := s1.at1 (k := 2) (by omega)
  have a3 : jaI μ (.ref S) (N i + 3) = some (f (i + 3)) := s1.at1 (k := 3) (by omega)
  have e1 : jaI μ1 (.ref S) (N i + 1) = some (f (i + 1)) := m1.2.2.2.at1 (k := 1) (by omega)
  have e2 : jaI μ1 (.ref S) (N i + 2) = some (f (i + 2)) := m1.2.2.2.at1 (k := 2) (by omega)
  have e3 : jaI μ1 (.ref S) (N i + 3) = some (f (i + 3)) := m1.2.2.2.at1 (k := 3) (by omega)
  refine ⟨μ2, _, ?_, m1.fin F2 r2 (w_move h.2.2.2.1 (f (i + 1)) (f (i + 2)) (f (i + 3))), ((Gw.of T1.1).trans (Gw.of F2)).up (by decide) (by decide)⟩
  rw [b10_358 (h0 := ir_ref)]
  simp only [gI12, gR12, pI12, pR12, rv12, h.k12, a1, a2, a3, if_true, c1, Option.bind_some]
  show jR (d + 460) 10 377 [.ref S, .ref X, .ref (X + 342), .int (N i)] [.int (o_move σ (f (i + 1)) (f (i + 2)) (f (i + 3))).1] μ1 = _
  rw [b10_377 (h0 := ir_ref)]
  simp only [gI13, gR13, pI13, pR13, rv13, m1.k13, e1, e2, e3, if_true, c2, Option.bind_some]
  show jR (d + 460) 10 396 [.ref S, .ref X, .ref (X + 342), .int (N i)] [.int (o_move σ (f (i + 1)) (f (i + 2)) (f (i + 3))).1, .int (o_move σ (f (i + 1)) (f (i + 2)) (f (i + 3))).1] μ2 = _
  rw [b10_396 (h0 := ir_ref), if_pos rfl]
theorem law_note (h : LWS μ X S n f σ) (hi : i + 7 ≤ n) : ∃ μ' σ', jR (d + 460) 10 401 [.ref S, .ref X, .ref (X + 342), .int (N i)] [] μ = jR (d + 460) 10 1254 [.ref S, .ref X, .ref (X + 342), .int (N i)] [] μ' ∧ LWS μ' X S n f σ' ∧ Gw 404 10500 μ μ' := by
  have t1 : OP (d + 459) 25 [.ref X, .int (f (i + 1)), .int (f (i + 2)), .int (f (i + 3)), .int (f (i + 4))] μ X (o_note σ (f (i + 1)) (f (i + 2)) (f (i + 3)) (f (i + 4))) 0 0 := t_note (d := d + 455) h.1 h.2.1 
  obtain ⟨μ1, c1, T1⟩ := t1
  have m1 := h.mid T1
  obtain ⟨B, hB, hx⟩ := m1.kx
  have p1 : ROP (X + 342) (jC (d + 459) 203 [.ref (X + 342), .int (f (i + 1)), .int (f (i + 2)), .int (f (i + 3)), .int (f (i + 4))] μ1) μ1 (o_note σ (f (i + 1)) (f (i + 2)) (f (i + 3)) (f (i + 4))) := p_note (d := d + 456) m1.2.2.1  (f (i + 1)) (f (i + 2)) (f (i + 3)) (f (i + 4))
  obtain ⟨μ2, c2, F2, r2⟩ := p1.lm m1.1.1
  have s1 := h.2.2.2.2
  have a1 : jaI μ (.ref S) (N i + 1) = some (f (i + 1)) := s1.at1 (k := 1) (by omega)
  have a2 : jaI μ (.ref S) (N i + 2) = some (f (i + 2)) := s1.at1 (k := 2) (by omega)
  have a3 : jaI μ (.ref S) (N i + 3) = some (f (i + 3)) := s1.at1 (k := 3) (by omega)
  have a4 : jaI μ (.ref S) (N i + 4) = some (f (i + 4)) := s1.at1 (k := 4) (by omega)
  have e1 : jaI μ1 (.ref S) (N i + 1) = some (f (i + 1)) := m1.2.2.2.at1 (k := 1) (by omega)
  have e2 : jaI μ1 (.ref S) (N i + 2) = some (f (i + 2)) := m1.2.2.2.at1 (k := 2) (by omega)
  have e3 : jaI μ1 (.ref S) (N i + 3) = some (f (i + 3)) := m1.2.2.2.at1 (k := 3) (by omega)
  have e4 : jaI μ1 (.ref S) (N i + 4) = some (f (i + 4)) := m1.2.2.2.at1 (k := 4) (by omega)
  refine ⟨μ2, _, ?_, m1.fin F2 r2 (w_note h.2.2.2.1 (f (i + 1)) (f (i + 2)) (f (i + 3)) (f (i + 4))), ((Gw.of T1.1).trans (Gw.of F2)).up (by decide) (by decide)⟩
  rw [b10_401 (h0 := ir_ref)]
  simp only [gI12, gR12, pI12, pR12, rv12, h.k12, a1, a2, a3, a4, if_true, c1, Option.bind_some]
  show jR (d + 460) 10 425 [.ref S, .ref X, .ref (X + 342), .int (N i)] [.int (o_note σ (f (i + 1)) (f (i + 2)) (f (i + 3)) (f (i + 4))).1] μ1 = _
  rw [b10_425 (h0 := ir_ref)]
  simp only [gI13, gR13, pI13, pR13, rv13, m1.k13, e1, e2, e3, e4, if_true, c2, Option.bind_some]
  show jR (d + 460) 10 449 [.ref S, .ref X, .ref (X + 342), .int (N i)] [.int (o_note σ (f (i + 1)) (f (i + 2)) (f (i + 3)) (f (i + 4))).1, .int (o_note σ (f (i + 1)) (f (i + 2)) (f (i + 3)) (f (i + 4))).1] μ2 = _
  rw [b10_449 (h0 := ir_ref), if_pos rfl]
theorem law_fill (h : LWS μ X S n f σ) (hi : i + 7 ≤ n) : ∃ μ' σ', jR (d + 460) 10 454 [.ref S, .ref X, .ref (X + 342), .int (N i)] [] μ = jR (d + 460) 10 1254 [.ref S, .ref X, .ref (X + 342), .int (N i)] [] μ' ∧ LWS μ' X S n f σ' ∧ Gw 404 10500 μ μ' := by
  have t1 : OP (d + 459) 26 [.ref X, .int (f (i + 1)), .int (f (i + 2)), .int (f (i + 3)), .int (f (i + 4))] μ X (o_fill σ (f (i + 1)) (f (i + 2)) (f (i + 3)) (f (i + 4))) 14 308 := t_fill (d := d + 454) h.1 h.2.1 (fun i hi => h.2.2.2.1.kk i (by omega))
  obtain ⟨μ1, c1, T1⟩ := t1
  have m1 := h.mid T1
  obtain ⟨B, hB, hx⟩ := m1.kx
  have p1 : ROPa (X + 342) 7 546 (jC (d + 459) 204 [.ref (X + 342), .int (f (i + 1)), .int (f (i + 2)), .int (f (i + 3)), .int (f (i + 4))] μ1) μ1 (o_fill σ (f (i + 1)) (f (i + 2)) (f (i + 3)) (f (i + 4))) := p_fill (d := d + 456) m1.2.2.1 m1.1.1 m1.z h.2.2.2.1.kk (f (i + 1)) (f (i + 2)) (f (i + 3)) (f (i + 4))
  obtain ⟨μ2, c2, F2, r2⟩ := p1.up (by decide) (by decide)
  have s1 := h.2.2.2.2
  have a1 : jaI μ (.ref S) (N i + 1) = some (f (i + 1)) := s1.at1 (k := 1) (by omega)
  have a2 : jaI μ (.ref S) (N i + 2) = some (f (i + 2)) := s1.at1 (k := 2) (by omega)
  have a3 : jaI μ (.ref S) (N i + 3) = some (f (i + 3)) := s1.at1 (k := 3) (by omega)
  have a4 : jaI μ (.ref S) (N i + 4) = some (f (i + 4)) := s1.at1 (k := 4) (by omega)
  have e1 : jaI μ1 (.ref S) (N i + 1) = some (f (i + 1)) := m1.2.2.2.at1 (k := 1) (by omega)
  have e2 : jaI μ1 (.ref S) (N i + 2) = some (f (i + 2)) := m1.2.2.2.at1 (k := 2) (by omega)
  have e3 : jaI μ1 (.ref S) (N i + 3) = some (f (i + 3)) := m1.2.2.2.at1 (k := 3) (by omega)
  have e4 : jaI μ1 (.ref S) (N i + 4) = some (f (i + 4)) := m1.2.2.2.at1 (k := 4) (by omega)
  refine ⟨μ2, _, ?_, m1.fin F2 r2 (w_fill h.2.2.2.1 (f (i + 1)) (f (i + 2)) (f (i + 3)) (f (i + 4))), ((Gw.of T1.1).trans (Gw.of F2)).up (by decide) (by decide)⟩
  rw [b10_454 (h0 := ir_ref)]
  simp only [gI12, gR12, pI12, pR12, rv12, h.k12, a1, a2, a3, a4, if_true, c1, Option.bind_some]
  show jR (d + 460) 10 478 [.ref S, .ref X, .ref (X + 342), .int (N i)] [.int (o_fill σ (f (i + 1)) (f (i + 2)) (f (i + 3)) (f (i + 4))).1] μ1 = _
  rw [b10_478 (h0 := ir_ref)]
  simp only [gI13, gR13, pI13, pR13, rv13, m1.k13, e1, e2, e3, e4, if_true, c2, Option.bind_some]
  show jR (d + 460) 10 502 [.ref S, .ref X, .ref (X + 342), .int (N i)] [.int (o_fill σ (f (i + 1)) (f (i + 2)) (f (i + 3)) (f (i + 4))).1, .int (o_fill σ (f (i + 1)) (f (i + 2)) (f (i + 3)) (f (i + 4))).1] μ2 = _
  rw [b10_502 (h0 := ir_ref), if_pos rfl]
theorem law_like (h : LWS μ X S n f σ) (hi : i + 7 ≤ n) : ∃ μ' σ', jR (d + 460) 10 507 [.ref S, .ref X, .ref (X + 342), .int (N i)] [] μ = jR (d + 460) 10 1254 [.ref S, .ref X, .ref (X + 342), .int (N i)] [] μ' ∧ LWS μ' X S n f σ' ∧ Gw 404 10500 μ μ' := by
  have t1 : OP (d + 459) 27 [.ref X, .int (f (i + 1)), .int (f (i + 2))] μ X (o_like σ (f (i + 1)) (f (i + 2))) 0 0 := t_like (d := d + 455) h.1 h.2.1 
  obtain ⟨μ1, c1, T1⟩ := t1
  have m1 := h.mid T1
  obtain ⟨B, hB, hx⟩ := m1.kx
  have p1 : ROP (X + 342) (jC (d + 459) 206 [.ref (X + 342), .int (f (i + 1)), .int (f (i + 2))] μ1) μ1 (o_like σ (f (i + 1)) (f (i + 2))) := p_like (d := d + 456) m1.2.2.1  (f (i + 1)) (f (i + 2))
  obtain ⟨μ2, c2, F2, r2⟩ := p1.lm m1.1.1
  have s1 := h.2.2.2.2
  have a1 : jaI μ (.ref S) (N i + 1) = some (f (i + 1)) := s1.at1 (k := 1) (by omega)
  have a2 : jaI μ (.ref S) (N i + 2) = some (f (i + 2)) := s1.at1 (k := 2) (by omega)
  have e1 : jaI μ1 (.ref S) (N i + 1) = some (f (i + 1)) := m1.2.2.2.at1 (k := 1) (by omega)
  have e2 : jaI μ1 (.ref S) (N i + 2) = some (f (i + 2)) := m1.2.2.2.at1 (k := 2) (by omega)
  refine ⟨μ2, _, ?_, m1.fin F2 r2 (w_like h.2.2.2.1 (f (i + 1)) (f (i + 2))), ((Gw.of T1.1).trans (Gw.of F2)).up (by decide) (by decide)⟩
  rw [b10_507 (h0 := ir_ref)]
  simp only [gI12, gR12, pI12, pR12, rv12, h.k12, a1, a2, if_true, c1, Option.bind_some]
  show jR (d + 460) 10 521 [.ref S, .ref X, .ref (X + 342), .int (N i)] [.int (o_like σ (f (i + 1)) (f (i + 2))).1] μ1 = _
  rw [b10_521 (h0 := ir_ref)]
  simp only [gI13, gR13, pI13, pR13, rv13, m1.k13, e1, e2, if_true, c2, Option.bind_some]
  show jR (d + 460) 10 535 [.ref S, .ref X, .ref (X + 342), .int (N i)] [.int (o_like σ (f (i + 1)) (f (i + 2))).1, .int (o_like σ (f (i + 1)) (f (i + 2))).1] μ2 = _
  rw [b10_535 (h0 := ir_ref), if_pos rfl]
theorem law_told (h : LWS μ X S n f σ) (hi : i + 7 ≤ n) : ∃ μ' σ', jR (d + 460) 10 540 [.ref S, .ref X, .ref (X + 342), .int (N i)] [] μ = jR (d + 460) 10 1254 [.ref S, .ref X, .ref (X + 342), .int (N i)] [] μ' ∧ LWS μ' X S n f σ' ∧ Gw 404 10500 μ μ' := by
  have t1 : OP (d + 459) 28 [.ref X, .int (f (i + 1)), .int (f (i + 2)), .int (f (i + 3)), .int (f (i + 4))] μ X (o_told σ (f (i + 1)) (f (i + 2)) (f (i + 3)) (f (i + 4))) 0 0 := t_told (d := d + 356) h.1 h.2.1 (fun i hi => h.2.2.2.1.kz i hi)
  obtain ⟨μ1, c1, T1⟩ := t1
  have m1 := h.mid T1
  obtain ⟨B, hB, hx⟩ := m1.kx
  have p1 : ROP (X + 342) (jC (d + 459) 208 [.ref (X + 342), .int (f (i + 1)), .int (f (i + 2)), .int (f (i + 3)), .int (f (i + 4))] μ1) μ1 (o_told σ (f (i + 1)) (f (i + 2)) (f (i + 3)) (f (i + 4))) := p_told (d := d + 8) m1.2.2.1  (f (i + 1)) (f (i + 2)) (f (i + 3)) (f (i + 4))
  obtain ⟨μ2, c2, F2, r2⟩ := p1.lm m1.1.1
  have s1 := h.2.2.2.2
  have a1 : jaI μ (.ref S) (N i + 1) = some (f (i + 1)) := s1.at1 (k := 1) (by omega)
  have a2 : jaI μ (.ref S) (N i + 2) = some (f (i + 2)) := s1.at1 (k := 2) (by omega)
  have a3 : jaI μ (.ref S) (N i + 3) = some (f (i + 3)) := s1.at1 (k := 3) (by omega)
  have a4 : jaI μ (.ref S) (N i + 4) = some (f (i + 4)) := s1.at1 (k := 4) (by omega)
  have e1 : jaI μ1 (.ref S) (N i + 1) = some (f (i + 1)) := m1.2.2.2.at1 (k := 1) (by omega)
  have e2 : jaI μ1 (.ref S) (N i + 2) = some (f (i + 2)) := m1.2.2.2.at1 (k := 2) (by omega)
  have e3 : jaI μ1 (.ref S) (N i + 3) = some (f (i + 3)) := m1.2.2.2.at1 (k := 3) (by omega)
  have e4 : jaI μ1 (.ref S) (N i + 4) = some (f (i + 4)) := m1.2.2.2.at1 (k := 4) (by omega)
  refine ⟨μ2, _, ?_, m1.fin F2 r2 (w_told h.2.2.2.1 (f (i + 1)) (f (i + 2)) (f (i + 3)) (f (i + 4))), ((Gw.of T1.1).trans (Gw.of F2)).up (by decide) (by decide)⟩
  rw [b10_540 (h0 := ir_ref)]
  simp only [gI12, gR12, pI12, pR12, rv12, h.k12, a1, a2, a3, a4, if_true, c1, Option.bind_some]
  show jR (d + 460) 10 564 [.ref S, .ref X, .ref (X + 342), .int (N i)] [.int (o_told σ (f (i + 1)) (f (i + 2)) (f (i + 3)) (f (i + 4))).1] μ1 = _
  rw [b10_564 (h0 := ir_ref)]
  simp only [gI13, gR13, pI13, pR13, rv13, m1.k13, e1, e2, e3, e4, if_true, c2, Option.bind_some]
  show jR (d + 460) 10 588 [.ref S, .ref X, .ref (X + 342), .int (N i)] [.int (o_told σ (f (i + 1)) (f (i + 2)) (f (i + 3)) (f (i + 4))).1, .int (o_told σ (f (i + 1)) (f (i + 2)) (f (i + 3)) (f (i + 4))).1] μ2 = _
  rw [b10_588 (h0 := ir_ref), if_pos rfl]
theorem law_print (h : LWS μ X S n f σ) (hi : i + 7 ≤ n) : ∃ μ' σ', jR (d + 460) 10 637 [.ref S, .ref X, .ref (X + 342), .int (N i)] [] μ = jR (d + 460) 10 1254 [.ref S, .ref X, .ref (X + 342), .int (N i)] [] μ' ∧ LWS μ' X S n f σ' ∧ Gw 404 10500 μ μ' := by
  have t1 : OP (d + 459) 30 [.ref X, .int (f (i + 1)), .int (f (i + 2)), .int (f (i + 3)), .int (f (i + 4))] μ X (o_print σ (f (i + 1)) (f (i + 2)) (f (i + 3)) (f (i + 4))) 4 180 := t_print (d := d + 449) h.1 h.2.1 (fun i hi => h.2.2.2.1.kz i hi)
  obtain ⟨μ1, c1, T1⟩ := t1
  have m1 := h.mid T1
  obtain ⟨B, hB, hx⟩ := m1.kx
  have p1 : ROPa (X + 342) 390 10101 (jC (d + 459) 219 [.ref (X + 342), .int (f (i + 1)), .int (f (i + 2)), .int (f (i + 3)), .int (f (i + 4))] μ1) μ1 (o_print σ (f (i + 1)) (f (i + 2)) (f (i + 3)) (f (i + 4))) := p_print (d := d + 450) m1.2.2.1 m1.1.1 m1.z hx h.2.2.2.1.kk (f (i + 1)) (f (i + 2)) (f (i + 3)) (f (i + 4))
  obtain ⟨μ2, c2, F2, r2⟩ := p1.up (by decide) (by decide)
  have s1 := h.2.2.2.2
  have a1 : jaI μ (.ref S) (N i + 1) = some (f (i + 1)) := s1.at1 (k := 1) (by omega)
  have a2 : jaI μ (.ref S) (N i + 2) = some (f (i + 2)) := s1.at1 (k := 2) (by omega)
  have a3 : jaI μ (.ref S) (N i + 3) = some (f (i + 3)) := s1.at1 (k := 3) (by omega)
  have a4 : jaI μ (.ref S) (N i + 4) = some (f (i + 4)) := s1.at1 (k := 4) (by omega)
  have e1 : jaI μ1 (.ref S) (N i + 1) = some (f (i + 1)) := m1.2.2.2.at1 (k := 1) (by omega)
  have e2 : jaI μ1 (.ref S) (N i + 2) = some (f (i + 2)) := m1.2.2.2.at1 (k := 2) (by omega)
  have e3 : jaI μ1 (.ref S) (N i + 3) = some (f (i + 3)) := m1.2.2.2.at1 (k := 3) (by omega)
  have e4 : jaI μ1 (.ref S) (N i + 4) = some (f (i + 4)) := m1.2.2.2.at1 (k := 4) (by omega)
  refine ⟨μ2, _, ?_, m1.fin F2 r2 (w_print h.2.2.2.1 (f (i + 1)) (f (i + 2)) (f (i + 3)) (f (i + 4))), ((Gw.of T1.1).trans (Gw.of F2)).up (by decide) (by decide)⟩
  rw [b10_637 (h0 := ir_ref)]
  simp only [gI12, gR12, pI12, pR12, rv12, h.k12, a1, a2, a3, a4, if_true, c1, Option.bind_some]
  show jR (d + 460) 10 661 [.ref S, .ref X, .ref (X + 342), .int (N i)] [.int (o_print σ (f (i + 1)) (f (i + 2)) (f (i + 3)) (f (i + 4))).1] μ1 = _
  rw [b10_661 (h0 := ir_ref)]
  simp only [gI13, gR13, pI13, pR13, rv13, m1.k13, e1, e2, e3, e4, if_true, c2, Option.bind_some]
  show jR (d + 460) 10 685 [.ref S, .ref X, .ref (X + 342), .int (N i)] [.int (o_print σ (f (i + 1)) (f (i + 2)) (f (i + 3)) (f (i + 4))).1, .int (o_print σ (f (i + 1)) (f (i + 2)) (f (i + 3)) (f (i + 4))).1] μ2 = _
  rw [b10_685 (h0 := ir_ref), if_pos rfl]
theorem law_rule (h : LWS μ X S n f σ) (hi : i + 7 ≤ n) : ∃ μ' σ', jR (d + 460) 10 690 [.ref S, .ref X, .ref (X + 342), .int (N i)] [] μ = jR (d + 460) 10 1254 [.ref S, .ref X, .ref (X + 342), .int (N i)] [] μ' ∧ LWS μ' X S n f σ' ∧ Gw 404 10500 μ μ' := by
  have t1 : OP (d + 459) 31 [.ref X, .int (f (i + 1)), .int (f (i + 2)), .int (f (i + 3))] μ X (o_rule σ (f (i + 1)) (f (i + 2)) (f (i + 3))) 0 0 := t_rule (d := d + 458) h.1 h.2.1 
  obtain ⟨μ1, c1, T1⟩ := t1
  have m1 := h.mid T1
  obtain ⟨B, hB, hx⟩ := m1.kx
  have p1 : ROP (X + 342) (jC (d + 459) 222 [.ref (X + 342), .int (f (i + 1)), .int (f (i + 2)), .int (f (i + 3))] μ1) μ1 (o_rule σ (f (i + 1)) (f (i + 2)) (f (i + 3))) := p_rule (d := d + 457) m1.2.2.1  (f (i + 1)) (f (i + 2)) (f (i + 3))
  obtain ⟨μ2, c2, F2, r2⟩ := p1.lm m1.1.1
  have s1 := h.2.2.2.2
  have a1 : jaI μ (.ref S) (N i + 1) = some (f (i + 1)) := s1.at1 (k := 1) (by omega)
  have a2 : jaI μ (.ref S) (N i + 2) = some (f (i + 2)) := s1.at1 (k := 2) (by omega)
  have a3 : jaI μ (.ref S) (N i + 3) = some (f (i + 3)) := s1.at1 (k := 3) (by omega)
  have e1 : jaI μ1 (.ref S) (N i + 1) = some (f (i + 1)) := m1.2.2.2.at1 (k := 1) (by omega)
  have e2 : jaI μ1 (.ref S) (N i + 2) = some (f (i + 2)) := m1.2.2.2.at1 (k := 2) (by omega)
  have e3 : jaI μ1 (.ref S) (N i + 3) = some (f (i + 3)) := m1.2.2.2.at1 (k := 3) (by omega)
  refine ⟨μ2, _, ?_, m1.fin F2 r2 (w_rule h.2.2.2.1 (f (i + 1)) (f (i + 2)) (f (i + 3))), ((Gw.of T1.1).trans (Gw.of F2)).up (by decide) (by decide)⟩
  rw [b10_690 (h0 := ir_ref)]
  simp only [gI12, gR12, pI12, pR12, rv12, h.k12, a1, a2, a3, if_true, c1, Option.bind_some]
  show jR (d + 460) 10 709 [.ref S, .ref X, .ref (X + 342), .int (N i)] [.int (o_rule σ (f (i + 1)) (f (i + 2)) (f (i + 3))).1] μ1 = _
  rw [b10_709 (h0 := ir_ref)]
  simp only [gI13, gR13, pI13, pR13, rv13, m1.k13, e1, e2, e3, if_true, c2, Option.bind_some]
  show jR (d + 460) 10 728 [.ref S, .ref X, .ref (X + 342), .int (N i)] [.int (o_rule σ (f (i + 1)) (f (i + 2)) (f (i + 3))).1, .int (o_rule σ (f (i + 1)) (f (i + 2)) (f (i + 3))).1] μ2 = _
  rw [b10_728 (h0 := ir_ref), if_pos rfl]
theorem law_taken (h : LWS μ X S n f σ) (hi : i + 7 ≤ n) : ∃ μ' σ', jR (d + 460) 10 733 [.ref S, .ref X, .ref (X + 342), .int (N i)] [] μ = jR (d + 460) 10 1254 [.ref S, .ref X, .ref (X + 342), .int (N i)] [] μ' ∧ LWS μ' X S n f σ' ∧ Gw 404 10500 μ μ' := by
  have t1 : OP (d + 459) 34 [.ref X, .int (f (i + 1)), .int (f (i + 2))] μ X (o_taken σ (f (i + 1)) (f (i + 2))) 0 0 := t_taken (d := d + 457) h.1 h.2.1 
  obtain ⟨μ1, c1, T1⟩ := t1
  have m1 := h.mid T1
  obtain ⟨B, hB, hx⟩ := m1.kx
  have p1 : ROP (X + 342) (jC (d + 459) 223 [.ref (X + 342), .int (f (i + 1)), .int (f (i + 2))] μ1) μ1 (o_taken σ (f (i + 1)) (f (i + 2))) := p_taken (d := d + 457) m1.2.2.1 (fun c hc => (h.2.2.2.1.1.1 c hc).1) (f (i + 1)) (f (i + 2))
  obtain ⟨μ2, c2, F2, r2⟩ := p1.lm m1.1.1
  have s1 := h.2.2.2.2
  have a1 : jaI μ (.ref S) (N i + 1) = some (f (i + 1)) := s1.at1 (k := 1) (by omega)
  have a2 : jaI μ (.ref S) (N i + 2) = some (f (i + 2)) := s1.at1 (k := 2) (by omega)
  have e1 : jaI μ1 (.ref S) (N i + 1) = some (f (i + 1)) := m1.2.2.2.at1 (k := 1) (by omega)
  have e2 : jaI μ1 (.ref S) (N i + 2) = some (f (i + 2)) := m1.2.2.2.at1 (k := 2) (by omega)
  refine ⟨μ2, _, ?_, m1.fin F2 r2 (w_taken h.2.2.2.1 (f (i + 1)) (f (i + 2))), ((Gw.of T1.1).trans (Gw.of F2)).up (by decide) (by decide)⟩
  rw [b10_733 (h0 := ir_ref)]
  simp only [gI12, gR12, pI12, pR12, rv12, h.k12, a1, a2, if_true, c1, Option.bind_some]
  show jR (d + 460) 10 747 [.ref S, .ref X, .ref (X + 342), .int (N i)] [.int (o_taken σ (f (i + 1)) (f (i + 2))).1] μ1 = _
  rw [b10_747 (h0 := ir_ref)]
  simp only [gI13, gR13, pI13, pR13, rv13, m1.k13, e1, e2, if_true, c2, Option.bind_some]
  show jR (d + 460) 10 761 [.ref S, .ref X, .ref (X + 342), .int (N i)] [.int (o_taken σ (f (i + 1)) (f (i + 2))).1, .int (o_taken σ (f (i + 1)) (f (i + 2))).1] μ2 = _
  rw [b10_761 (h0 := ir_ref), if_pos rfl]
theorem law_merge (h : LWS μ X S n f σ) (hi : i + 7 ≤ n) : ∃ μ' σ', jR (d + 460) 10 766 [.ref S, .ref X, .ref (X + 342), .int (N i)] [] μ = jR (d + 460) 10 1254 [.ref S, .ref X, .ref (X + 342), .int (N i)] [] μ' ∧ LWS μ' X S n f σ' ∧ Gw 404 10500 μ μ' := by
  have t1 : OP (d + 459) 35 [.ref X] μ X (o_merge σ) 0 0 := t_merge (d := d + 453) h.1 h.2.1 
  obtain ⟨μ1, c1, T1⟩ := t1
  have m1 := h.mid T1
  obtain ⟨B, hB, hx⟩ := m1.kx
  have p1 : ROP (X + 342) (jC (d + 459) 224 [.ref (X + 342)] μ1) μ1 (o_merge σ) := p_merge (d := d + 453) m1.2.2.1 h.2.2.2.1.wm
  obtain ⟨μ2, c2, F2, r2⟩ := p1.lm m1.1.1
  refine ⟨μ2, _, ?_, m1.fin F2 r2 (w_merge h.2.2.2.1 (h.2.2.1.l8 1 (by decide))), ((Gw.of T1.1).trans (Gw.of F2)).up (by decide) (by decide)⟩
  rw [b10_766 (h0 := ir_ref)]
  simp only [gI12, gR12, pI12, pR12, rv12, h.k12, if_true, c1, Option.bind_some]
  show jR (d + 460) 10 770 [.ref S, .ref X, .ref (X + 342), .int (N i)] [.int (o_merge σ).1] μ1 = _
  rw [b10_770 (h0 := ir_ref)]
  simp only [gI13, gR13, pI13, pR13, rv13, m1.k13, if_true, c2, Option.bind_some]
  show jR (d + 460) 10 774 [.ref S, .ref X, .ref (X + 342), .int (N i)] [.int (o_merge σ).1, .int (o_merge σ).1] μ2 = _
  rw [b10_774 (h0 := ir_ref), if_pos rfl]
theorem law_clash (h : LWS μ X S n f σ) (hi : i + 7 ≤ n) : ∃ μ' σ', jR (d + 460) 10 779 [.ref S, .ref X, .ref (X + 342), .int (N i)] [] μ = jR (d + 460) 10 1254 [.ref S, .ref X, .ref (X + 342), .int (N i)] [] μ' ∧ LWS μ' X S n f σ' ∧ Gw 404 10500 μ μ' := by
  have t1 : OP (d + 459) 36 [.ref X, .int (f (i + 1)), .int (f (i + 2))] μ X (o_clash σ (f (i + 1)) (f (i + 2))) 0 0 := t_clash (d := d + 458) h.1 h.2.1 
  obtain ⟨μ1, c1, T1⟩ := t1
  have m1 := h.mid T1
  obtain ⟨B, hB, hx⟩ := m1.kx
  have p1 : ROP (X + 342) (jC (d + 459) 241 [.ref (X + 342), .int (f (i + 1)), .int (f (i + 2))] μ1) μ1 (o_clash σ (f (i + 1)) (f (i + 2))) := p_clash (d := d + 457) m1.2.2.1 h.2.2.2.1.se (f (i + 1)) (f (i + 2))
  obtain ⟨μ2, c2, F2, r2⟩ := p1.lm m1.1.1
  have s1 := h.2.2.2.2
  have a1 : jaI μ (.ref S) (N i + 1) = some (f (i + 1)) := s1.at1 (k := 1) (by omega)
  have a2 : jaI μ (.ref S) (N i + 2) = some (f (i + 2)) := s1.at1 (k := 2) (by omega)
  have e1 : jaI μ1 (.ref S) (N i + 1) = some (f (i + 1)) := m1.2.2.2.at1 (k := 1) (by omega)
  have e2 : jaI μ1 (.ref S) (N i + 2) = some (f (i + 2)) := m1.2.2.2.at1 (k := 2) (by omega)
  refine ⟨μ2, _, ?_, m1.fin F2 r2 (w_clash h.2.2.2.1 (f (i + 1)) (f (i + 2))), ((Gw.of T1.1).trans (Gw.of F2)).up (by decide) (by decide)⟩
  rw [b10_779 (h0 := ir_ref)]
  simp only [gI12, gR12, pI12, pR12, rv12, h.k12, a1, a2, if_true, c1, Option.bind_some]
  show jR (d + 460) 10 793 [.ref S, .ref X, .ref (X + 342), .int (N i)] [.int (o_clash σ (f (i + 1)) (f (i + 2))).1] μ1 = _
  rw [b10_793 (h0 := ir_ref)]
  simp only [gI13, gR13, pI13, pR13, rv13, m1.k13, e1, e2, if_true, c2, Option.bind_some]
  show jR (d + 460) 10 807 [.ref S, .ref X, .ref (X + 342), .int (N i)] [.int (o_clash σ (f (i + 1)) (f (i + 2))).1, .int (o_clash σ (f (i + 1)) (f (i + 2))).1] μ2 = _
  rw [b10_807 (h0 := ir_ref), if_pos rfl]
theorem law_settle (h : LWS μ X S n f σ) (hi : i + 7 ≤ n) : ∃ μ' σ', jR (d + 460) 10 812 [.ref S, .ref X, .ref (X + 342), .int (N i)] [] μ = jR (d + 460) 10 1254 [.ref S, .ref X, .ref (X + 342), .int (N i)] [] μ' ∧ LWS μ' X S n f σ' ∧ Gw 404 10500 μ μ' := by
  have t1 : OP (d + 459) 37 [.ref X, .int (f (i + 1)), .int (f (i + 2))] μ X (o_settle σ (f (i + 1)) (f (i + 2))) 0 0 := t_settle (d := d + 454) h.1 h.2.1 h.2.2.2.1.cw
  obtain ⟨μ1, c1, T1⟩ := t1
  have m1 := h.mid T1
  obtain ⟨B, hB, hx⟩ := m1.kx
  have p1 : ROP (X + 342) (jC (d + 459) 242 [.ref (X + 342), .int (f (i + 1)), .int (f (i + 2))] μ1) μ1 (o_settle σ (f (i + 1)) (f (i + 2))) := p_settle (d := d + 455) m1.2.2.1 h.2.2.2.1.cw h.2.2.2.1.se (f (i + 1)) (f (i + 2))
  obtain ⟨μ2, c2, F2, r2⟩ := p1.lm m1.1.1
  have s1 := h.2.2.2.2
  have a1 : jaI μ (.ref S) (N i + 1) = some (f (i + 1)) := s1.at1 (k := 1) (by omega)
  have a2 : jaI μ (.ref S) (N i + 2) = some (f (i + 2)) := s1.at1 (k := 2) (by omega)
  have e1 : jaI μ1 (.ref S) (N i + 1) = some (f (i + 1)) := m1.2.2.2.at1 (k := 1) (by omega)
  have e2 : jaI μ1 (.ref S) (N i + 2) = some (f (i + 2)) := m1.2.2.2.at1 (k := 2) (by omega)
  refine ⟨μ2, _, ?_, m1.fin F2 r2 (w_settle h.2.2.2.1 (f (i + 1)) (f (i + 2))), ((Gw.of T1.1).trans (Gw.of F2)).up (by decide) (by decide)⟩
  rw [b10_812 (h0 := ir_ref)]
  simp only [gI12, gR12, pI12, pR12, rv12, h.k12, a1, a2, if_true, c1, Option.bind_some]
  show jR (d + 460) 10 826 [.ref S, .ref X, .ref (X + 342), .int (N i)] [.int (o_settle σ (f (i + 1)) (f (i + 2))).1] μ1 = _
  rw [b10_826 (h0 := ir_ref)]
  simp only [gI13, gR13, pI13, pR13, rv13, m1.k13, e1, e2, if_true, c2, Option.bind_some]
  show jR (d + 460) 10 840 [.ref S, .ref X, .ref (X + 342), .int (N i)] [.int (o_settle σ (f (i + 1)) (f (i + 2))).1, .int (o_settle σ (f (i + 1)) (f (i + 2))).1] μ2 = _
  rw [b10_840 (h0 := ir_ref), if_pos rfl]
theorem law_take (h : LWS μ X S n f σ) (hi : i + 7 ≤ n) : ∃ μ' σ', jR (d + 460) 10 845 [.ref S, .ref X, .ref (X + 342), .int (N i)] [] μ = jR (d + 460) 10 1254 [.ref S, .ref X, .ref (X + 342), .int (N i)] [] μ' ∧ LWS μ' X S n f σ' ∧ Gw 404 10500 μ μ' := by
  have t1 : OP (d + 459) 38 [.ref X] μ X (o_take σ) 0 0 := t_take (d := d + 455) h.1 h.2.1 
  obtain ⟨μ1, c1, T1⟩ := t1
  have m1 := h.mid T1
  obtain ⟨B, hB, hx⟩ := m1.kx
  have p1 : ROP (X + 342) (jC (d + 459) 244 [.ref (X + 342)] μ1) μ1 (o_take σ) := p_take (d := d + 456) m1.2.2.1 
  obtain ⟨μ2, c2, F2, r2⟩ := p1.lm m1.1.1
  refine ⟨μ2, _, ?_, m1.fin F2 r2 (w_take h.2.2.2.1), ((Gw.of T1.1).trans (Gw.of F2)).up (by decide) (by decide)⟩
  rw [b10_845 (h0 := ir_ref)]
  simp only [gI12, gR12, pI12, pR12, rv12, h.k12, if_true, c1, Option.bind_some]
  show jR (d + 460) 10 849 [.ref S, .ref X, .ref (X + 342), .int (N i)] [.int (o_take σ).1] μ1 = _
  rw [b10_849 (h0 := ir_ref)]
  simp only [gI13, gR13, pI13, pR13, rv13, m1.k13, if_true, c2, Option.bind_some]
  show jR (d + 460) 10 853 [.ref S, .ref X, .ref (X + 342), .int (N i)] [.int (o_take σ).1, .int (o_take σ).1] μ2 = _
  rw [b10_853 (h0 := ir_ref), if_pos rfl]
theorem law_undo (h : LWS μ X S n f σ) (hi : i + 7 ≤ n) : ∃ μ' σ', jR (d + 460) 10 858 [.ref S, .ref X, .ref (X + 342), .int (N i)] [] μ = jR (d + 460) 10 1254 [.ref S, .ref X, .ref (X + 342), .int (N i)] [] μ' ∧ LWS μ' X S n f σ' ∧ Gw 404 10500 μ μ' := by
  have t1 : OP (d + 459) 39 [.ref X] μ X (o_undo σ) 0 0 := t_undo (d := d + 456) h.1 h.2.1 
  obtain ⟨μ1, c1, T1⟩ := t1
  have m1 := h.mid T1
  obtain ⟨B, hB, hx⟩ := m1.kx
  have p1 : ROP (X + 342) (jC (d + 459) 161 [.ref (X + 342)] μ1) μ1 (o_undo σ) := p_undo (d := d + 457) m1.2.2.1 
  obtain ⟨μ2, c2, F2, r2⟩ := p1.lm m1.1.1
  refine ⟨μ2, _, ?_, m1.fin F2 r2 (w_undo h.2.2.2.1), ((Gw.of T1.1).trans (Gw.of F2)).up (by decide) (by decide)⟩
  rw [b10_858 (h0 := ir_ref)]
  simp only [gI12, gR12, pI12, pR12, rv12, h.k12, if_true, c1, Option.bind_some]
  show jR (d + 460) 10 862 [.ref S, .ref X, .ref (X + 342), .int (N i)] [.int (o_undo σ).1] μ1 = _
  rw [b10_862 (h0 := ir_ref)]
  simp only [gI13, gR13, pI13, pR13, rv13, m1.k13, if_true, c2, Option.bind_some]
  show jR (d + 460) 10 866 [.ref S, .ref X, .ref (X + 342), .int (N i)] [.int (o_undo σ).1, .int (o_undo σ).1] μ2 = _
  rw [b10_866 (h0 := ir_ref), if_pos rfl]
theorem law_exch (h : LWS μ X S n f σ) (hi : i + 7 ≤ n) : ∃ μ' σ', jR (d + 460) 10 871 [.ref S, .ref X, .ref (X + 342), .int (N i)] [] μ = jR (d + 460) 10 1254 [.ref S, .ref X, .ref (X + 342), .int (N i)] [] μ' ∧ LWS μ' X S n f σ' ∧ Gw 404 10500 μ μ' := by
  have t1 : OP (d + 459) 40 [.ref X] μ X (o_exch σ) 0 0 := t_exch (d := d + 453) h.1 h.2.1 
  obtain ⟨μ1, c1, T1⟩ := t1
  have m1 := h.mid T1
  obtain ⟨B, hB, hx⟩ := m1.kx
  have p1 : ROP (X + 342) (jC (d + 459) 245 [.ref (X + 342)] μ1) μ1 (o_exch σ) := p_exch (d := d + 453) m1.2.2.1 h.2.2.2.1.wm
  obtain ⟨μ2, c2, F2, r2⟩ := p1.lm m1.1.1
  refine ⟨μ2, _, ?_, m1.fin F2 r2 (w_exch h.2.2.2.1), ((Gw.of T1.1).trans (Gw.of F2)).up (by decide) (by decide)⟩
  rw [b10_871 (h0 := ir_ref)]
  simp only [gI12, gR12, pI12, pR12, rv12, h.k12, if_true, c1, Option.bind_some]
  show jR (d + 460) 10 875 [.ref S, .ref X, .ref (X + 342), .int (N i)] [.int (o_exch σ).1] μ1 = _
  rw [b10_875 (h0 := ir_ref)]
  simp only [gI13, gR13, pI13, pR13, rv13, m1.k13, if_true, c2, Option.bind_some]
  show jR (d + 460) 10 879 [.ref S, .ref X, .ref (X + 342), .int (N i)] [.int (o_exch σ).1, .int (o_exch σ).1] μ2 = _
  rw [b10_879 (h0 := ir_ref), if_pos rfl]
theorem law_drawn (h : LWS μ X S n f σ) (hi : i + 7 ≤ n) : ∃ μ' σ', jR (d + 460) 10 884 [.ref S, .ref X, .ref (X + 342), .int (N i)] [] μ = jR (d + 460) 10 1254 [.ref S, .ref X, .ref (X + 342), .int (N i)] [] μ' ∧ LWS μ' X S n f σ' ∧ Gw 404 10500 μ μ' := by
  have t1 : OP (d + 459) 41 [.ref X, .int (f (i + 1)), .int (f (i + 2))] μ X (o_drawn σ (f (i + 1)) (f (i + 2))) 0 0 := t_drawn (d := d + 452) h.1 h.2.1 
  obtain ⟨μ1, c1, T1⟩ := t1
  have m1 := h.mid T1
  obtain ⟨B, hB, hx⟩ := m1.kx
  have p1 : ROP (X + 342) (jC (d + 459) 250 [.ref (X + 342), .int (f (i + 1)), .int (f (i + 2))] μ1) μ1 (o_drawn σ (f (i + 1)) (f (i + 2))) := p_drawn (d := d + 452) m1.2.2.1 h.2.2.2.1.wm (f (i + 1)) (f (i + 2))
  obtain ⟨μ2, c2, F2, r2⟩ := p1.lm m1.1.1
  have s1 := h.2.2.2.2
  have a1 : jaI μ (.ref S) (N i + 1) = some (f (i + 1)) := s1.at1 (k := 1) (by omega)
  have a2 : jaI μ (.ref S) (N i + 2) = some (f (i + 2)) := s1.at1 (k := 2) (by omega)
  have e1 : jaI μ1 (.ref S) (N i + 1) = some (f (i + 1)) := m1.2.2.2.at1 (k := 1) (by omega)
  have e2 : jaI μ1 (.ref S) (N i + 2) = some (f (i + 2)) := m1.2.2.2.at1 (k := 2) (by omega)
  refine ⟨μ2, _, ?_, m1.fin F2 r2 (w_drawn h.2.2.2.1 (f (i + 1)) (f (i + 2))), ((Gw.of T1.1).trans (Gw.of F2)).up (by decide) (by decide)⟩
  rw [b10_884 (h0 := ir_ref)]
  simp only [gI12, gR12, pI12, pR12, rv12, h.k12, a1, a2, if_true, c1, Option.bind_some]
  show jR (d + 460) 10 898 [.ref S, .ref X, .ref (X + 342), .int (N i)] [.int (o_drawn σ (f (i + 1)) (f (i + 2))).1] μ1 = _
  rw [b10_898 (h0 := ir_ref)]
  simp only [gI13, gR13, pI13, pR13, rv13, m1.k13, e1, e2, if_true, c2, Option.bind_some]
  show jR (d + 460) 10 912 [.ref S, .ref X, .ref (X + 342), .int (N i)] [.int (o_drawn σ (f (i + 1)) (f (i + 2))).1, .int (o_drawn σ (f (i + 1)) (f (i + 2))).1] μ2 = _
  rw [b10_912 (h0 := ir_ref), if_pos rfl]
theorem law_chance (h : LWS μ X S n f σ) (hi : i + 7 ≤ n) : ∃ μ' σ', jR (d + 460) 10 917 [.ref S, .ref X, .ref (X + 342), .int (N i)] [] μ = jR (d + 460) 10 1254 [.ref S, .ref X, .ref (X + 342), .int (N i)] [] μ' ∧ LWS μ' X S n f σ' ∧ Gw 404 10500 μ μ' := by
  have t1 : OP (d + 459) 45 [.ref X, .int (f (i + 1)), .int (f (i + 2)), .int (f (i + 3))] μ X (o_chance σ (f (i + 1)) (f (i + 2)) (f (i + 3))) 0 0 := t_chance (d := d + 452) h.1 h.2.1 
  obtain ⟨μ1, c1, T1⟩ := t1
  have m1 := h.mid T1
  obtain ⟨B, hB, hx⟩ := m1.kx
  have p1 : ROP (X + 342) (jC (d + 459) 253 [.ref (X + 342), .int (f (i + 1)), .int (f (i + 2)), .int (f (i + 3))] μ1) μ1 (o_chance σ (f (i + 1)) (f (i + 2)) (f (i + 3))) := p_chance (d := d + 448) m1.2.2.1 h.2.2.2.1.wm (f (i + 1)) (f (i + 2)) (f (i + 3))
  obtain ⟨μ2, c2, F2, r2⟩ := p1.lm m1.1.1
  have s1 := h.2.2.2.2
  have a1 : jaI μ (.ref S) (N i + 1) = some (f (i + 1)) := s1.at1 (k := 1) (by omega)
  have a2 : jaI μ (.ref S) (N i + 2) = some (f (i + 2)) := s1.at1 (k := 2) (by omega)
  have a3 : jaI μ (.ref S) (N i + 3) = some (f (i + 3)) := s1.at1 (k := 3) (by omega)
  have e1 : jaI μ1 (.ref S) (N i + 1) = some (f (i + 1)) := m1.2.2.2.at1 (k := 1) (by omega)
  have e2 : jaI μ1 (.ref S) (N i + 2) = some (f (i + 2)) := m1.2.2.2.at1 (k := 2) (by omega)
  have e3 : jaI μ1 (.ref S) (N i + 3) = some (f (i + 3)) := m1.2.2.2.at1 (k := 3) (by omega)
  refine ⟨μ2, _, ?_, m1.fin F2 r2 (w_chance h.2.2.2.1 (f (i + 1)) (f (i + 2)) (f (i + 3))), ((Gw.of T1.1).trans (Gw.of F2)).up (by decide) (by decide)⟩
  rw [b10_917 (h0 := ir_ref)]
  simp only [gI12, gR12, pI12, pR12, rv12, h.k12, a1, a2, a3, if_true, c1, Option.bind_some]
  show jR (d + 460) 10 936 [.ref S, .ref X, .ref (X + 342), .int (N i)] [.int (o_chance σ (f (i + 1)) (f (i + 2)) (f (i + 3))).1] μ1 = _
  rw [b10_936 (h0 := ir_ref)]
  simp only [gI13, gR13, pI13, pR13, rv13, m1.k13, e1, e2, e3, if_true, c2, Option.bind_some]
  show jR (d + 460) 10 955 [.ref S, .ref X, .ref (X + 342), .int (N i)] [.int (o_chance σ (f (i + 1)) (f (i + 2)) (f (i + 3))).1, .int (o_chance σ (f (i + 1)) (f (i + 2)) (f (i + 3))).1] μ2 = _
  rw [b10_955 (h0 := ir_ref), if_pos rfl]
theorem law_tells (h : LWS μ X S n f σ) (hi : i + 7 ≤ n) : ∃ μ' σ', jR (d + 460) 10 960 [.ref S, .ref X, .ref (X + 342), .int (N i)] [] μ = jR (d + 460) 10 1254 [.ref S, .ref X, .ref (X + 342), .int (N i)] [] μ' ∧ LWS μ' X S n f σ' ∧ Gw 404 10500 μ μ' := by
  have t1 : OP (d + 459) 47 [.ref X, .int (f (i + 1)), .int (f (i + 2)), .int (f (i + 3)), .int (f (i + 4))] μ X (o_tells σ (f (i + 1)) (f (i + 2)) (f (i + 3)) (f (i + 4))) 0 0 := t_tells (d := d + 354) h.1 h.2.1 (fun i hi => h.2.2.2.1.kk i hi)
  obtain ⟨μ1, c1, T1⟩ := t1
  have m1 := h.mid T1
  obtain ⟨B, hB, hx⟩ := m1.kx
  have p1 : ROP (X + 342) (jC (d + 459) 255 [.ref (X + 342), .int (f (i + 1)), .int (f (i + 2)), .int (f (i + 3)), .int (f (i + 4))] μ1) μ1 (o_tells σ (f (i + 1)) (f (i + 2)) (f (i + 3)) (f (i + 4))) := p_tells (d := d + 7) m1.2.2.1 h.2.2.2.1.wm h.2.2.2.1.2.2.2 (f (i + 1)) (f (i + 2)) (f (i + 3)) (f (i + 4))
  obtain ⟨μ2, c2, F2, r2⟩ := p1.lm m1.1.1
  have s1 := h.2.2.2.2
  have a1 : jaI μ (.ref S) (N i + 1) = some (f (i + 1)) := s1.at1 (k := 1) (by omega)
  have a2 : jaI μ (.ref S) (N i + 2) = some (f (i + 2)) := s1.at1 (k := 2) (by omega)
  have a3 : jaI μ (.ref S) (N i + 3) = some (f (i + 3)) := s1.at1 (k := 3) (by omega)
  have a4 : jaI μ (.ref S) (N i + 4) = some (f (i + 4)) := s1.at1 (k := 4) (by omega)
  have e1 : jaI μ1 (.ref S) (N i + 1) = some (f (i + 1)) := m1.2.2.2.at1 (k := 1) (by omega)
  have e2 : jaI μ1 (.ref S) (N i + 2) = some (f (i + 2)) := m1.2.2.2.at1 (k := 2) (by omega)
  have e3 : jaI μ1 (.ref S) (N i + 3) = some (f (i + 3)) := m1.2.2.2.at1 (k := 3) (by omega)
  have e4 : jaI μ1 (.ref S) (N i + 4) = some (f (i + 4)) := m1.2.2.2.at1 (k := 4) (by omega)
  refine ⟨μ2, _, ?_, m1.fin F2 r2 (w_tells h.2.2.2.1 (f (i + 1)) (f (i + 2)) (f (i + 3)) (f (i + 4))), ((Gw.of T1.1).trans (Gw.of F2)).up (by decide) (by decide)⟩
  rw [b10_960 (h0 := ir_ref)]
  simp only [gI12, gR12, pI12, pR12, rv12, h.k12, a1, a2, a3, a4, if_true, c1, Option.bind_some]
  show jR (d + 460) 10 984 [.ref S, .ref X, .ref (X + 342), .int (N i)] [.int (o_tells σ (f (i + 1)) (f (i + 2)) (f (i + 3)) (f (i + 4))).1] μ1 = _
  rw [b10_984 (h0 := ir_ref)]
  simp only [gI13, gR13, pI13, pR13, rv13, m1.k13, e1, e2, e3, e4, if_true, c2, Option.bind_some]
  show jR (d + 460) 10 1008 [.ref S, .ref X, .ref (X + 342), .int (N i)] [.int (o_tells σ (f (i + 1)) (f (i + 2)) (f (i + 3)) (f (i + 4))).1, .int (o_tells σ (f (i + 1)) (f (i + 2)) (f (i + 3)) (f (i + 4))).1] μ2 = _
  rw [b10_1008 (h0 := ir_ref), if_pos rfl]
theorem law_film (h : LWS μ X S n f σ) (hi : i + 7 ≤ n) : ∃ μ' σ', jR (d + 460) 10 1013 [.ref S, .ref X, .ref (X + 342), .int (N i)] [] μ = jR (d + 460) 10 1254 [.ref S, .ref X, .ref (X + 342), .int (N i)] [] μ' ∧ LWS μ' X S n f σ' ∧ Gw 404 10500 μ μ' := by
  have t1 : OP (d + 459) 51 [.ref X, .int (f (i + 1)), .int (f (i + 2)), .int (f (i + 3))] μ X (o_film σ (f (i + 1)) (f (i + 2)) (f (i + 3))) 0 0 := t_film (d := d + 355) h.1 h.2.1 (fun i hi => h.2.2.2.1.kz i hi)
  obtain ⟨μ1, c1, T1⟩ := t1
  have m1 := h.mid T1
  obtain ⟨B, hB, hx⟩ := m1.kx
  have p1 : ROP (X + 342) (jC (d + 459) 258 [.ref (X + 342), .int (f (i + 1)), .int (f (i + 2)), .int (f (i + 3))] μ1) μ1 (o_film σ (f (i + 1)) (f (i + 2)) (f (i + 3))) := p_film (d := d + 8) m1.2.2.1  (f (i + 1)) (f (i + 2)) (f (i + 3))
  obtain ⟨μ2, c2, F2, r2⟩ := p1.lm m1.1.1
  have s1 := h.2.2.2.2
  have a1 : jaI μ (.ref S) (N i + 1) = some (f (i + 1)) := s1.at1 (k := 1) (by omega)
  have a2 : jaI μ (.ref S) (N i + 2) = some (f (i + 2)) := s1.at1 (k := 2) (by omega)
  have a3 : jaI μ (.ref S) (N i + 3) = some (f (i + 3)) := s1.at1 (k := 3) (by omega)
  have e1 : jaI μ1 (.ref S) (N i + 1) = some (f (i + 1)) := m1.2.2.2.at1 (k := 1) (by omega)
  have e2 : jaI μ1 (.ref S) (N i + 2) = some (f (i + 2)) := m1.2.2.2.at1 (k := 2) (by omega)
  have e3 : jaI μ1 (.ref S) (N i + 3) = some (f (i + 3)) := m1.2.2.2.at1 (k := 3) (by omega)
  refine ⟨μ2, _, ?_, m1.fin F2 r2 (w_film h.2.2.2.1 (f (i + 1)) (f (i + 2)) (f (i + 3))), ((Gw.of T1.1).trans (Gw.of F2)).up (by decide) (by decide)⟩
  rw [b10_1013 (h0 := ir_ref)]
  simp only [gI12, gR12, pI12, pR12, rv12, h.k12, a1, a2, a3, if_true, c1, Option.bind_some]
  show jR (d + 460) 10 1032 [.ref S, .ref X, .ref (X + 342), .int (N i)] [.int (o_film σ (f (i + 1)) (f (i + 2)) (f (i + 3))).1] μ1 = _
  rw [b10_1032 (h0 := ir_ref)]
  simp only [gI13, gR13, pI13, pR13, rv13, m1.k13, e1, e2, e3, if_true, c2, Option.bind_some]
  show jR (d + 460) 10 1051 [.ref S, .ref X, .ref (X + 342), .int (N i)] [.int (o_film σ (f (i + 1)) (f (i + 2)) (f (i + 3))).1, .int (o_film σ (f (i + 1)) (f (i + 2)) (f (i + 3))).1] μ2 = _
  rw [b10_1051 (h0 := ir_ref), if_pos rfl]
theorem law_image (h : LWS μ X S n f σ) (hi : i + 7 ≤ n) : ∃ μ' σ', jR (d + 460) 10 1056 [.ref S, .ref X, .ref (X + 342), .int (N i)] [] μ = jR (d + 460) 10 1254 [.ref S, .ref X, .ref (X + 342), .int (N i)] [] μ' ∧ LWS μ' X S n f σ' ∧ Gw 404 10500 μ μ' := by
  have t1 : OP (d + 459) 52 [.ref X] μ X (o_image σ) 0 0 := t_image (d := d + 456) h.1 h.2.1 
  obtain ⟨μ1, c1, T1⟩ := t1
  have m1 := h.mid T1
  obtain ⟨B, hB, hx⟩ := m1.kx
  have p1 : ROP (X + 342) (jC (d + 459) 259 [.ref (X + 342)] μ1) μ1 (o_image σ) := p_image (d := d + 457) m1.2.2.1 
  obtain ⟨μ2, c2, F2, r2⟩ := p1.lm m1.1.1
  refine ⟨μ2, _, ?_, m1.fin F2 r2 (w_image h.2.2.2.1), ((Gw.of T1.1).trans (Gw.of F2)).up (by decide) (by decide)⟩
  rw [b10_1056 (h0 := ir_ref)]
  simp only [gI12, gR12, pI12, pR12, rv12, h.k12, if_true, c1, Option.bind_some]
  show jR (d + 460) 10 1060 [.ref S, .ref X, .ref (X + 342), .int (N i)] [.int (o_image σ).1] μ1 = _
  rw [b10_1060 (h0 := ir_ref)]
  simp only [gI13, gR13, pI13, pR13, rv13, m1.k13, if_true, c2, Option.bind_some]
  show jR (d + 460) 10 1064 [.ref S, .ref X, .ref (X + 342), .int (N i)] [.int (o_image σ).1, .int (o_image σ).1] μ2 = _
  rw [b10_1064 (h0 := ir_ref), if_pos rfl]
theorem law_back (h : LWS μ X S n f σ) (hi : i + 7 ≤ n) : ∃ μ' σ', jR (d + 460) 10 1069 [.ref S, .ref X, .ref (X + 342), .int (N i)] [] μ = jR (d + 460) 10 1254 [.ref S, .ref X, .ref (X + 342), .int (N i)] [] μ' ∧ LWS μ' X S n f σ' ∧ Gw 404 10500 μ μ' := by
  have t1 : OP (d + 459) 53 [.ref X] μ X (o_back σ) 0 0 := t_back (d := d + 456) h.1 h.2.1 
  obtain ⟨μ1, c1, T1⟩ := t1
  have m1 := h.mid T1
  obtain ⟨B, hB, hx⟩ := m1.kx
  have p1 : ROP (X + 342) (jC (d + 459) 260 [.ref (X + 342)] μ1) μ1 (o_back σ) := p_back (d := d + 457) m1.2.2.1 
  obtain ⟨μ2, c2, F2, r2⟩ := p1.lm m1.1.1
  refine ⟨μ2, _, ?_, m1.fin F2 r2 (w_back h.2.2.2.1), ((Gw.of T1.1).trans (Gw.of F2)).up (by decide) (by decide)⟩
  rw [b10_1069 (h0 := ir_ref)]
  simp only [gI12, gR12, pI12, pR12, rv12, h.k12, if_true, c1, Option.bind_some]
  show jR (d + 460) 10 1073 [.ref S, .ref X, .ref (X + 342), .int (N i)] [.int (o_back σ).1] μ1 = _
  rw [b10_1073 (h0 := ir_ref)]
  simp only [gI13, gR13, pI13, pR13, rv13, m1.k13, if_true, c2, Option.bind_some]
  show jR (d + 460) 10 1077 [.ref S, .ref X, .ref (X + 342), .int (N i)] [.int (o_back σ).1, .int (o_back σ).1] μ2 = _
  rw [b10_1077 (h0 := ir_ref), if_pos rfl]
theorem law_count (h : LWS μ X S n f σ) (hi : i + 7 ≤ n) : ∃ μ' σ', jR (d + 460) 10 1082 [.ref S, .ref X, .ref (X + 342), .int (N i)] [] μ = jR (d + 460) 10 1254 [.ref S, .ref X, .ref (X + 342), .int (N i)] [] μ' ∧ LWS μ' X S n f σ' ∧ Gw 404 10500 μ μ' := by
  have t1 : OP (d + 459) 54 [.ref X, .int (f (i + 1))] μ X (o_count σ (f (i + 1))) 0 0 := t_count (d := d + 458) h.1 h.2.1 
  obtain ⟨μ1, c1, T1⟩ := t1
  have m1 := h.mid T1
  obtain ⟨B, hB, hx⟩ := m1.kx
  have p1 : ROP (X + 342) (jC (d + 459) 261 [.ref (X + 342), .int (f (i + 1))] μ1) μ1 (o_count σ (f (i + 1))) := p_count (d := d + 457) m1.2.2.1  (f (i + 1))
  obtain ⟨μ2, c2, F2, r2⟩ := p1.lm m1.1.1
  have s1 := h.2.2.2.2
  have a1 : jaI μ (.ref S) (N i + 1) = some (f (i + 1)) := s1.at1 (k := 1) (by omega)
  have e1 : jaI μ1 (.ref S) (N i + 1) = some (f (i + 1)) := m1.2.2.2.at1 (k := 1) (by omega)
  refine ⟨μ2, _, ?_, m1.fin F2 r2 (w_count h.2.2.2.1 (f (i + 1))), ((Gw.of T1.1).trans (Gw.of F2)).up (by decide) (by decide)⟩
  rw [b10_1082 (h0 := ir_ref)]
  simp only [gI12, gR12, pI12, pR12, rv12, h.k12, a1, if_true, c1, Option.bind_some]
  show jR (d + 460) 10 1091 [.ref S, .ref X, .ref (X + 342), .int (N i)] [.int (o_count σ (f (i + 1))).1] μ1 = _
  rw [b10_1091 (h0 := ir_ref)]
  simp only [gI13, gR13, pI13, pR13, rv13, m1.k13, e1, if_true, c2, Option.bind_some]
  show jR (d + 460) 10 1100 [.ref S, .ref X, .ref (X + 342), .int (N i)] [.int (o_count σ (f (i + 1))).1, .int (o_count σ (f (i + 1))).1] μ2 = _
  rw [b10_1100 (h0 := ir_ref), if_pos rfl]
theorem law_sheet (h : LWS μ X S n f σ) (hi : i + 7 ≤ n) : ∃ μ' σ', jR (d + 460) 10 1105 [.ref S, .ref X, .ref (X + 342), .int (N i)] [] μ = jR (d + 460) 10 1254 [.ref S, .ref X, .ref (X + 342), .int (N i)] [] μ' ∧ LWS μ' X S n f σ' ∧ Gw 404 10500 μ μ' := by
  have t1 : OP (d + 459) 55 [.ref X, .int (f (i + 1)), .int (f (i + 2)), .int (f (i + 3))] μ X (o_sheet σ (f (i + 1)) (f (i + 2)) (f (i + 3))) 0 0 := t_sheet (d := d + 457) h.1 h.2.1 
  obtain ⟨μ1, c1, T1⟩ := t1
  have m1 := h.mid T1
  obtain ⟨B, hB, hx⟩ := m1.kx
  have p1 : ROP (X + 342) (jC (d + 459) 262 [.ref (X + 342), .int (f (i + 1)), .int (f (i + 2)), .int (f (i + 3))] μ1) μ1 (o_sheet σ (f (i + 1)) (f (i + 2)) (f (i + 3))) := p_sheet (d := d + 457) m1.2.2.1  (f (i + 1)) (f (i + 2)) (f (i + 3))
  obtain ⟨μ2, c2, F2, r2⟩ := p1.lm m1.1.1
  have s1 := h.2.2.2.2
  have a1 : jaI μ (.ref S) (N i + 1) = some (f (i + 1)) := s1.at1 (k := 1) (by omega)
  have a2 : jaI μ (.ref S) (N i + 2) = some (f (i + 2)) := s1.at1 (k := 2) (by omega)
  have a3 : jaI μ (.ref S) (N i + 3) = some (f (i + 3)) := s1.at1 (k := 3) (by omega)
  have e1 : jaI μ1 (.ref S) (N i + 1) = some (f (i + 1)) := m1.2.2.2.at1 (k := 1) (by omega)
  have e2 : jaI μ1 (.ref S) (N i + 2) = some (f (i + 2)) := m1.2.2.2.at1 (k := 2) (by omega)
  have e3 : jaI μ1 (.ref S) (N i + 3) = some (f (i + 3)) := m1.2.2.2.at1 (k := 3) (by omega)
  refine ⟨μ2, _, ?_, m1.fin F2 r2 (w_sheet h.2.2.2.1 (f (i + 1)) (f (i + 2)) (f (i + 3))), ((Gw.of T1.1).trans (Gw.of F2)).up (by decide) (by decide)⟩
  rw [b10_1105 (h0 := ir_ref)]
  simp only [gI12, gR12, pI12, pR12, rv12, h.k12, a1, a2, a3, if_true, c1, Option.bind_some]
  show jR (d + 460) 10 1124 [.ref S, .ref X, .ref (X + 342), .int (N i)] [.int (o_sheet σ (f (i + 1)) (f (i + 2)) (f (i + 3))).1] μ1 = _
  rw [b10_1124 (h0 := ir_ref)]
  simp only [gI13, gR13, pI13, pR13, rv13, m1.k13, e1, e2, e3, if_true, c2, Option.bind_some]
  show jR (d + 460) 10 1143 [.ref S, .ref X, .ref (X + 342), .int (N i)] [.int (o_sheet σ (f (i + 1)) (f (i + 2)) (f (i + 3))).1, .int (o_sheet σ (f (i + 1)) (f (i + 2)) (f (i + 3))).1] μ2 = _
  rw [b10_1143 (h0 := ir_ref), if_pos rfl]
theorem law_put (h : LWS μ X S n f σ) (hi : i + 7 ≤ n) : ∃ μ' σ', jR (d + 460) 10 1148 [.ref S, .ref X, .ref (X + 342), .int (N i)] [] μ = jR (d + 460) 10 1254 [.ref S, .ref X, .ref (X + 342), .int (N i)] [] μ' ∧ LWS μ' X S n f σ' ∧ Gw 404 10500 μ μ' := by
  have t1 : OP (d + 459) 56 [.ref X, .int (f (i + 1)), .int (f (i + 2)), .int (f (i + 3))] μ X (o_put σ (f (i + 1)) (f (i + 2)) (f (i + 3))) 0 0 := t_put (d := d + 457) h.1 h.2.1 
  obtain ⟨μ1, c1, T1⟩ := t1
  have m1 := h.mid T1
  obtain ⟨B, hB, hx⟩ := m1.kx
  have p1 : ROP (X + 342) (jC (d + 459) 263 [.ref (X + 342), .int (f (i + 1)), .int (f (i + 2)), .int (f (i + 3))] μ1) μ1 (o_put σ (f (i + 1)) (f (i + 2)) (f (i + 3))) := p_put (d := d + 457) m1.2.2.1 h.2.2.2.1.2.2.2 (f (i + 1)) (f (i + 2)) (f (i + 3))
  obtain ⟨μ2, c2, F2, r2⟩ := p1.lm m1.1.1
  have s1 := h.2.2.2.2
  have a1 : jaI μ (.ref S) (N i + 1) = some (f (i + 1)) := s1.at1 (k := 1) (by omega)
  have a2 : jaI μ (.ref S) (N i + 2) = some (f (i + 2)) := s1.at1 (k := 2) (by omega)
  have a3 : jaI μ (.ref S) (N i + 3) = some (f (i + 3)) := s1.at1 (k := 3) (by omega)
  have e1 : jaI μ1 (.ref S) (N i + 1) = some (f (i + 1)) := m1.2.2.2.at1 (k := 1) (by omega)
  have e2 : jaI μ1 (.ref S) (N i + 2) = some (f (i + 2)) := m1.2.2.2.at1 (k := 2) (by omega)
  have e3 : jaI μ1 (.ref S) (N i + 3) = some (f (i + 3)) := m1.2.2.2.at1 (k := 3) (by omega)
  refine ⟨μ2, _, ?_, m1.fin F2 r2 (w_put h.2.2.2.1 (f (i + 1)) (f (i + 2)) (f (i + 3))), ((Gw.of T1.1).trans (Gw.of F2)).up (by decide) (by decide)⟩
  rw [b10_1148 (h0 := ir_ref)]
  simp only [gI12, gR12, pI12, pR12, rv12, h.k12, a1, a2, a3, if_true, c1, Option.bind_some]
  show jR (d + 460) 10 1167 [.ref S, .ref X, .ref (X + 342), .int (N i)] [.int (o_put σ (f (i + 1)) (f (i + 2)) (f (i + 3))).1] μ1 = _
  rw [b10_1167 (h0 := ir_ref)]
  simp only [gI13, gR13, pI13, pR13, rv13, m1.k13, e1, e2, e3, if_true, c2, Option.bind_some]
  show jR (d + 460) 10 1186 [.ref S, .ref X, .ref (X + 342), .int (N i)] [.int (o_put σ (f (i + 1)) (f (i + 2)) (f (i + 3))).1, .int (o_put σ (f (i + 1)) (f (i + 2)) (f (i + 3))).1] μ2 = _
  rw [b10_1186 (h0 := ir_ref), if_pos rfl]
theorem law_copy (h : LWS μ X S n f σ) (hi : i + 7 ≤ n) : ∃ μ' σ', jR (d + 460) 10 1191 [.ref S, .ref X, .ref (X + 342), .int (N i)] [] μ = jR (d + 460) 10 1254 [.ref S, .ref X, .ref (X + 342), .int (N i)] [] μ' ∧ LWS μ' X S n f σ' ∧ Gw 404 10500 μ μ' := by
  have t1 : OP (d + 459) 57 [.ref X, .int (f (i + 1)), .int (f (i + 2)), .int (f (i + 3)), .int (f (i + 4)), .int (f (i + 5))] μ X (o_copy σ (f (i + 1)) (f (i + 2)) (f (i + 3)) (f (i + 4)) (f (i + 5))) 0 0 := t_copy (d := d + 457) h.1 h.2.1 
  obtain ⟨μ1, c1, T1⟩ := t1
  have m1 := h.mid T1
  obtain ⟨B, hB, hx⟩ := m1.kx
  have p1 : ROP (X + 342) (jC (d + 459) 264 [.ref (X + 342), .int (f (i + 1)), .int (f (i + 2)), .int (f (i + 3)), .int (f (i + 4)), .int (f (i + 5))] μ1) μ1 (o_copy σ (f (i + 1)) (f (i + 2)) (f (i + 3)) (f (i + 4)) (f (i + 5))) := p_copy (d := d + 457) m1.2.2.1 h.2.2.2.1.2.2.2 (f (i + 1)) (f (i + 2)) (f (i + 3)) (f (i + 4)) (f (i + 5))
  obtain ⟨μ2, c2, F2, r2⟩ := p1.lm m1.1.1
  have s1 := h.2.2.2.2
  have a1 : jaI μ (.ref S) (N i + 1) = some (f (i + 1)) := s1.at1 (k := 1) (by omega)
  have a2 : jaI μ (.ref S) (N i + 2) = some (f (i + 2)) := s1.at1 (k := 2) (by omega)
  have a3 : jaI μ (.ref S) (N i + 3) = some (f (i + 3)) := s1.at1 (k := 3) (by omega)
  have a4 : jaI μ (.ref S) (N i + 4) = some (f (i + 4)) := s1.at1 (k := 4) (by omega)
  have a5 : jaI μ (.ref S) (N i + 5) = some (f (i + 5)) := s1.at1 (k := 5) (by omega)
  have e1 : jaI μ1 (.ref S) (N i + 1) = some (f (i + 1)) := m1.2.2.2.at1 (k := 1) (by omega)
  have e2 : jaI μ1 (.ref S) (N i + 2) = some (f (i + 2)) := m1.2.2.2.at1 (k := 2) (by omega)
  have e3 : jaI μ1 (.ref S) (N i + 3) = some (f (i + 3)) := m1.2.2.2.at1 (k := 3) (by omega)
  have e4 : jaI μ1 (.ref S) (N i + 4) = some (f (i + 4)) := m1.2.2.2.at1 (k := 4) (by omega)
  have e5 : jaI μ1 (.ref S) (N i + 5) = some (f (i + 5)) := m1.2.2.2.at1 (k := 5) (by omega)
  refine ⟨μ2, _, ?_, m1.fin F2 r2 (w_copy h.2.2.2.1 (f (i + 1)) (f (i + 2)) (f (i + 3)) (f (i + 4)) (f (i + 5))), ((Gw.of T1.1).trans (Gw.of F2)).up (by decide) (by decide)⟩
  rw [b10_1191 (h0 := ir_ref)]
  simp only [gI12, gR12, pI12, pR12, rv12, h.k12, a1, a2, a3, a4, a5, if_true, c1, Option.bind_some]
  show jR (d + 460) 10 1220 [.ref S, .ref X, .ref (X + 342), .int (N i)] [.int (o_copy σ (f (i + 1)) (f (i + 2)) (f (i + 3)) (f (i + 4)) (f (i + 5))).1] μ1 = _
  rw [b10_1220 (h0 := ir_ref)]
  simp only [gI13, gR13, pI13, pR13, rv13, m1.k13, e1, e2, e3, e4, e5, if_true, c2, Option.bind_some]
  show jR (d + 460) 10 1249 [.ref S, .ref X, .ref (X + 342), .int (N i)] [.int (o_copy σ (f (i + 1)) (f (i + 2)) (f (i + 3)) (f (i + 4)) (f (i + 5))).1, .int (o_copy σ (f (i + 1)) (f (i + 2)) (f (i + 3)) (f (i + 4)) (f (i + 5))).1] μ2 = _
  rw [b10_1249 (h0 := ir_ref), if_pos rfl]
end LAW
