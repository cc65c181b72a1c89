/-! THE REFERENCE: rows closed, contents put, rows swapped -/
section REF
variable {μ μ' μ'' : jM} {S S' : Nat → Prop} {T T' : Nat → Nat → Prop} {M g h t n w d D i j k x y a c : Nat} {A B : GA}
theorem r_closes (hq : QS μ M) (hG : GQ μ M g) (ht : t < vN μ (mA M g)) : ∃ μ', jC (d + 2) 200 [.ref M, .int (N g), .int (N t)] μ = some (none, μ') ∧ FM1 M g μ μ' ∧ GQ μ' M g ∧ rG μ' (mA M g) = (rG μ (mA M g)).eraseIdx t := by
  obtain ⟨hg, g1, g8, gf⟩ := hG
  have hA := mA_ok (M := M) hg
  have hlen : (rG μ (mA M g)).length = vN μ (mA M g) := len_rG _ _
  generalize hn : vN μ (mA M g) = n at *
  have hl0 : RWN μ (mA M g) n = rG μ (mA M g) := by rw [rG_m, hn]
  have hle : ((rG μ (mA M g)).eraseIdx t).length = n - 1 := by rw [List.length_eraseIdx, if_pos (by omega), hlen]
  have loop : ∀ (m r : Nat) (μ1 : jM), r + m = n → t < r → FMg M g μ μ1 → QS μ1 M → (∀ j b, jrv μ1 (M + 23 + g) j = some b → jk μ1 b = 20) → RWN μ1 (mA M g) n = ((rG μ (mA M g)).eraseIdx t).take (r - 1) ++ (rG μ (mA M g)).drop (r - 1) → ∃ μ2, jR (d + 2) 200 4 [.ref M, .int (N g), .int (N t), .int (N r)] [] μ1 = jR (d + 2) 200 4 [.ref M, .int (N g), .int (N t), .int (N n)] [] μ2 ∧ FMg M g μ μ2 ∧ QS μ2 M ∧ (∀ j b, jrv μ2 (M + 23 + g) j = some b → jk μ2 b = 20) ∧ RWN μ2 (mA M g) n = ((rG μ (mA M g)).eraseIdx t).take (n - 1) ++ (rG μ (mA M g)).drop (n - 1) := by
    intro m
    induction m with
    | zero =>
      intro r μ1 hi hr F q hf1 hv
      rw [Nat.add_zero] at hi
      subst hi
      exact ⟨μ1, rfl, F, q, hf1, hv⟩
    | succ m ih =>
      intro r μ1 hi hr F q hf1 hv
      have c1 := r_copyRow (d := d) (i := r) (k := r - 1) q hg hg (by omega) (by omega) hf1 hf1
      have Fc : FMg M g μ1 (cpR μ1 (mA M g) r (mA M g) (r - 1)) := cpR_fr
      have l1 : (((rG μ (mA M g)).eraseIdx t).take (r - 1)).length = r - 1 := by rw [List.length_take]; omega
      have hy : (rG μ (mA M g))[r]? = some (rowAt μ1 (mA M g) r) := by
        have := RWN_get (μ := μ1) (A := mA M g) (show r < n by omega)
        rw [hv, List.getElem?_append_right (by omega), l1, List.getElem?_drop, show r - 1 + (r - (r - 1)) = r by omega] at this
        exact this
      have hset : RWN (cpR μ1 (mA M g) r (mA M g) (r - 1)) (mA M g) n = ((rG μ (mA M g)).eraseIdx t).take r ++ (rG μ (mA M g)).drop r := by
        rw [RL_cpR hA (Or.inl rfl) (mA_key hg hg) (show r - 1 < n by omega), hv]
        exact erase_step (by omega) hr (by omega) hy
      have ro := q.ro hg
      rw [F.iv (show ¬ SMg M g (M + 1) by unfold SMg; omega), g1] at ro
      obtain ⟨μ2, v1, v2⟩ := ih (r + 1) (cpR μ1 (mA M g) r (mA M g) (r - 1)) (by omega) (by omega) (F.trans Fc) (Fc.qs hg q) (fun j b hb => cpR_ref hf1 hf1 j b hb) hset
      refine ⟨μ2, ?_, v2⟩
      rw [b200_4]
      simp only [N_lit, N_sub (show 1 ≤ r by omega), gI13, gR13, pI13, pR13, rv13, Option.bind_some, Option.bind_none, if_true, if_false, true_or, or_true, false_or, or_false, true_and, and_true, false_and, and_false, decide_eq_true_eq, decide_true, decide_false, eq_self, not_true_eq_false, not_false_eq_true, jfit0, N_lit, N_add, N_mul, NEG_eq, pl_none, pl_some, rf_some, rf_none, jun_ref, jun_null, ir_ref, ir_null, jr_rf, jun_rf, Option.toList_some, Option.toList_none, List.nil_append, List.cons_append, q.k13, q.f.1, ro, N_lt (show r < 2147483648 by omega) (show n < 2147483648 by omega), show r < n by omega, c1]
      rw [b200_24]
      simp only [N_lit, N_add]
      exact v1
  have hstart : RWN μ (mA M g) n = ((rG μ (mA M g)).eraseIdx t).take (t + 1 - 1) ++ (rG μ (mA M g)).drop (t + 1 - 1) := by
    rw [hl0, Nat.add_sub_cancel]
    have e : ((rG μ (mA M g)).eraseIdx t).take t = (rG μ (mA M g)).take t := by
      refine List.ext_getElem? fun j => ?_
      by_cases hj : j < t
      · rw [List.getElem?_take_of_lt hj, List.getElem?_take_of_lt hj, List.getElem?_eraseIdx, if_pos hj]
      · rw [List.getElem?_eq_none (by rw [List.length_take]; omega), List.getElem?_eq_none (by rw [List.length_take]; omega)]
    rw [e, List.take_append_drop]
  obtain ⟨μ2, v1, F2, q2, f2, hv2⟩ := loop (n - (t + 1)) (t + 1) μ (by omega) (by omega) FMg.refl hq gf hstart
  have r2 : jiv μ2 (M + 1) g = N n := by
    rw [F2.iv (by show ¬ SMg M g (M + 1); unfold SMg; omega)]; exact g1
  have F3 : FM1 M g μ (jsetI μ2 (M + 1) g (N (n - 1))) := (F2.f1 hg).trans ⟨Fx.setI Fx.refl (Or.inl rfl), fun j hj => by
    simp only [ty_setI, ty_setR, ty_rowI, ty_rowR, jk_setI, jk_setR, jk_rowI, jk_rowR, jl_setI, jl_setR, jl_rowI, jl_rowR, sz_setI, sz_setR, sz_rowI, sz_rowR, ext_setI, ext_setR, iv_setI, iv_setR, iv_rowI, iv_rowR, rv_setI, rv_setR, rv_rowI, rv_rowR, iv_setIn, iv_rowIn, rv_setRn, rv_rowRn, iv_rowIe, rv_rowRe, true_and]
    rw [if_neg hj]⟩
  have vn3 : vN (jsetI μ2 (M + 1) g (N (n - 1))) (mA M g) = n - 1 := by
    rw [vN_m]
    simp only [ty_setI, ty_setR, ty_rowI, ty_rowR, jk_setI, jk_setR, jk_rowI, jk_rowR, jl_setI, jl_setR, jl_rowI, jl_rowR, sz_setI, sz_setR, sz_rowI, sz_rowR, ext_setI, ext_setR, iv_setI, iv_setR, iv_rowI, iv_rowR, rv_setI, rv_setR, rv_rowI, rv_rowR, iv_setIn, iv_rowIn, rv_setRn, rv_rowRn, iv_rowIe, rv_rowRe, and_self, if_true]
    exact N_nat (by omega)
  have rg3 : rG (jsetI μ2 (M + 1) g (N (n - 1))) (mA M g) = (rG μ (mA M g)).eraseIdx t := by
    rw [rG_m, vn3]
    have k1 : jiv (jsetI μ2 (M + 1) g (N (n - 1))) ((mA M g).1 1) = jiv μ2 ((mA M g).1 1) := iv_setIn (show ¬ M + 3 + g = M + 1 by omega)
    have k2 : rc (jsetI μ2 (M + 1) g (N (n - 1))) (mA M g) = rc μ2 (mA M g) := by
      funext z
      unfold rc
      rw [iv_setIn (show ¬ (mA M g).1 2 = M + 1 by show ¬ M + 8 + g = M + 1; omega), iv_setIn (show ¬ (mA M g).1 3 = M + 1 by show ¬ M + 13 + g = M + 1; omega), iv_setIn (show ¬ (mA M g).1 5 = M + 1 by show ¬ M + 18 + g = M + 1; omega), rv_setI]
    have e : RWN (jsetI μ2 (M + 1) g (N (n - 1))) (mA M g) (n - 1) = (RWN μ2 (mA M g) n).take (n - 1) := by
      unfold RWN
      rw [k1, k2]
      exact mkL_take (by omega)
    rw [e, hv2, List.take_append_of_le_length (by rw [List.length_take]; omega), List.take_take, Nat.min_self]
    exact List.take_of_length_le (by omega)
  refine ⟨jsetI μ2 (M + 1) g (N (n - 1)), ?_, F3, ⟨hg, by rw [vn3]; simp [iv_setI], by rw [vn3]; omega, f2⟩, rg3⟩
  rw [jC_run (by decide)]
  show jR (d + 2) 200 0 [.ref M, .int (N g), .int (N t), .retAddr 0] [] μ = _
  rw [b200_0]
  simp only [N_lit, N_add]
  rw [v1, b200_4]
  have ro := q2.ro hg
  rw [r2] at ro
  simp only [N_lit, gI13, gR13, pI13, pR13, rv13, Option.bind_some, Option.bind_none, if_true, if_false, true_or, or_true, false_or, or_false, true_and, and_true, false_and, and_false, decide_eq_true_eq, decide_true, decide_false, eq_self, not_true_eq_false, not_false_eq_true, jfit0, N_lit, N_add, N_mul, NEG_eq, pl_none, pl_some, rf_some, rf_none, jun_ref, jun_null, ir_ref, ir_null, jr_rf, jun_rf, Option.toList_some, Option.toList_none, List.nil_append, List.cons_append, q2.k13, q2.f.1, ro, N_lt (show n < 2147483648 by omega) (show n < 2147483648 by omega), Nat.lt_irrefl, N_sub (show 1 ≤ n by omega), q2.rs hg]
/-- a content put: a number alone has a number, a formula alone a formula -/
theorem r_put {kd nm : Int32} {f : Option Nat} (hq : QS μ M) (hg : g < 4) (hy : y < 24) (hf : ∀ b, f = some b → jk μ b = 20) : jC d 192 [.ref M, .int (N g), .int (N y), .int kd, .int nm, va_rf f] μ = some (none, putC μ (mA M g) y kd (if kd = N 1 then nm else N 0) (if kd = N 2 then f else none)) := by
  obtain ⟨f0, f1, f2, f3, f4, f5⟩ := hq.f
  obtain ⟨a1, a2, a3, a4, a5, a6⟩ := hq.gr hg
  obtain ⟨g1, g2, g3, g4, g5, g6⟩ := hq.gk hg
  have k13 := hq.k13
  have e1 := ent_set (μ := μ) (v := kd) g2.1 g2.2 hy (by decide)
  have e2 := ent_set (μ := jsetI μ (M + 8 + g) y kd) (v := if kd = N 1 then nm else N 0) g3.1 g3.2 hy (by decide)
  have e3 := refSet (μ := jsetI (jsetI μ (M + 8 + g) y kd) (M + 13 + g) y (if kd = N 1 then nm else N 0)) (a := M + 23 + g) (r := if kd = N 2 then f else none) g5.1 g5.2 hy (by decide) (fun b hb => by
    split at hb
    · exact hf b hb
    · cases hb)
  have w1 : jaR (jsetI μ (M + 8 + g) y kd) (.ref (M + 12)) (N g) = some (.ref (M + 13 + g)) := a3
  have w2 : jaR (jsetI (jsetI μ (M + 8 + g) y kd) (M + 13 + g) y (if kd = N 1 then nm else N 0)) (.ref (M + 22)) (N g) = some (.ref (M + 23 + g)) := a5
  rw [jC_run (by decide)]
  show jR d 192 0 [.ref M, .int (N g), .int (N y), .int kd, .int nm, va_rf f] [] μ = _
  rw [b192_0 (h5 := jr_rf)]
  simp only [N_lit, gI13, gR13, pI13, pR13, rv13, Option.bind_some, Option.bind_none, if_true, if_false, true_or, or_true, false_or, or_false, true_and, and_true, false_and, and_false, decide_eq_true_eq, decide_true, decide_false, eq_self, not_true_eq_false, not_false_eq_true, jfit0, N_lit, N_add, N_mul, NEG_eq, pl_none, pl_some, rf_some, rf_none, jun_ref, jun_null, ir_ref, ir_null, jr_rf, jun_rf, Option.toList_some, Option.toList_none, List.nil_append, List.cons_append, jk_setI, rv_setI, k13, f2, f3, a2, e1, w1]
  have fin : ∀ v : Int32, v = (if kd = N 1 then nm else N 0) → jR d 192 27 [.ref M, .int (N g), .int (N y), .int kd, .int nm, va_rf f] [.int v, .int (N y), .ref (M + 13 + g)] (jsetI μ (M + 8 + g) y kd) = some (none, putC μ (mA M g) y kd (if kd = N 1 then nm else N 0) (if kd = N 2 then f else none)) := by
    intro v hv
    subst hv
    rw [b192_27 (h5 := jr_rf) (hs0 := ir_ref), e2]
    simp only [N_lit, gI13, gR13, pI13, pR13, rv13, Option.bind_some, Option.bind_none, if_true, if_false, true_or, or_true, false_or, or_false, true_and, and_true, false_and, and_false, decide_eq_true_eq, decide_true, decide_false, eq_self, not_true_eq_false, not_false_eq_true, jfit0, N_lit, N_add, N_mul, NEG_eq, pl_none, pl_some, rf_some, rf_none, jun_ref, jun_null, ir_ref, ir_null, jr_rf, jun_rf, Option.toList_some, Option.toList_none, List.nil_append, List.cons_append, jk_setI, rv_setI, k13, f5, w2]
    by_cases e : kd = N 2
    · rw [if_pos e] at e3 ⊢
      refine (if_pos e).trans ?_
      rw [b192_46 (hs0 := ir_ref) (hs2 := jr_rf), e3]
      rfl
    · rw [if_neg e] at e3 ⊢
      refine (if_neg e).trans ?_
      rw [b192_46 (hs0 := ir_ref) (hs2 := ir_null)]
      have e3' : jsR (jsetI (jsetI μ (M + 8 + g) y kd) (M + 13 + g) y (if kd = N 1 then nm else N 0)) (.ref (M + 23 + g)) (N y) .null = some (jsetR (jsetI (jsetI μ (M + 8 + g) y kd) (M + 13 + g) y (if kd = N 1 then nm else N 0)) (M + 23 + g) y none) := e3
      rw [e3']
      rfl
  by_cases e : kd = N 1
  · exact (if_pos e).trans (fin nm (by rw [if_pos e]))
  · exact (if_neg e).trans (fin (N 0) (by rw [if_neg e]))
theorem putC_fr {kd nm : Int32} {f : Option Nat} : FMg M h μ (putC μ (mA M h) y kd nm f) := by
  unfold putC
  refine Fx.setR (Fx.setI (Fx.setI Fx.refl ?_) ?_) ?_
  · exact Or.inr (Or.inl rfl)
  · exact Or.inr (Or.inr (Or.inl rfl))
  · exact (rfl : M + 23 + h = M + 23 + h)
theorem putC_gq {kd nm : Int32} {f : Option Nat} (hG : GQ μ M g) (hf : ∀ b, f = some b → jk μ b = 20) : GQ (putC μ (mA M g) y kd nm f) M g := by
  obtain ⟨hg, h1, h2, h3⟩ := hG
  have F := putC_fr (M := M) (h := g) (μ := μ) (y := y) (kd := kd) (nm := nm) (f := f)
  have e : vN (putC μ (mA M g) y kd nm f) (mA M g) = vN μ (mA M g) := vN_putC (mA_ok hg)
  refine ⟨hg, by rw [e, F.iv (by show ¬ SMg M g (M + 1); unfold SMg; omega)]; exact h1, by rw [e]; exact h2, fun j b hb => ?_⟩
  have hb : (if M + 23 + g = M + 23 + g ∧ j = y then f else jrv μ (M + 23 + g) j) = some b := hb
  split at hb
  · exact hf b hb
  · exact h3 j b hb
end REF
