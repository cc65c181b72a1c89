/-! THE REFERENCE: rows opened, closed, moved; contents put -/
section LISTS
variable {α : Type} {l : List α} {r n i : Nat} {x y : α}
/-- the row ahead copied to where the new one is: the new one is one ahead -/
theorem ins_back (h1 : 1 ≤ r) (hr : r ≤ l.length) (hy : l[r - 1]? = some y) : (l.insertIdx r x).set r y = l.insertIdx (r - 1) y := by
  refine List.ext_getElem? fun j => ?_
  rw [List.getElem?_set, List.getElem?_insertIdx, List.getElem?_insertIdx]
  have hl : (l.insertIdx r x).length = l.length + 1 := by rw [List.length_insertIdx, if_pos hr]
  by_cases e : r = j
  · subst e
    rw [if_pos rfl, if_pos (by omega), if_neg (show ¬ r < r - 1 by omega), if_neg (show ¬ r = r - 1 by omega)]
    exact hy.symm
  · rw [if_neg e]
    by_cases h2 : j < r
    · rw [if_pos h2]
      by_cases h3 : j < r - 1
      · rw [if_pos h3]
      · have : j = r - 1 := by omega
        subst this
        rw [if_neg (by omega), if_pos rfl, if_pos (by omega)]
        exact hy
    · rw [if_neg h2, if_neg (by omega), if_neg (by omega), if_neg (by omega)]
/-- rows copied ahead, one by one -/
theorem erase_step {p : Nat} (hp : p < l.length) (hr : p < r) (hrl : r < l.length) (hy : l[r]? = some y) : ((l.eraseIdx p).take (r - 1) ++ l.drop (r - 1)).set (r - 1) y = (l.eraseIdx p).take r ++ l.drop r := by
  have hl : (l.eraseIdx p).length = l.length - 1 := by rw [List.length_eraseIdx, if_pos hp]
  have l1 : ((l.eraseIdx p).take (r - 1)).length = r - 1 := by rw [List.length_take]; omega
  have l2 : ((l.eraseIdx p).take r).length = r := by rw [List.length_take]; omega
  refine List.ext_getElem? fun j => ?_
  rw [List.getElem?_set]
  by_cases e : r - 1 = j
  · rw [if_pos e, if_pos (by rw [List.length_append, l1, List.length_drop]; omega), List.getElem?_append_left (by omega), List.getElem?_take_of_lt (by omega), List.getElem?_eraseIdx, if_neg (by omega), ← e, show r - 1 + 1 = r by omega]
    exact hy.symm
  · rw [if_neg e]
    by_cases h1 : j < r - 1
    · rw [List.getElem?_append_left (by omega), List.getElem?_append_left (by omega), List.getElem?_take_of_lt (by omega), List.getElem?_take_of_lt (by omega)]
    · rw [List.getElem?_append_right (by omega), List.getElem?_append_right (by omega), l1, l2, List.getElem?_drop, List.getElem?_drop]
      congr 1; omega
end LISTS
section REF
variable {μ μ' μ'' : jM} {S S' : Nat → Prop} {T T' : Nat → Nat → Prop} {M g h t n w d D i j k x y a c : Nat} {A B : GA}
/-- a cell cleared -/
def clC (μ : jM) (A : GA) (y : Nat) : jM := putT (putC μ A y (N 0) (N 0) none) A y (N 0)
theorem r_clearCell (hq : QS μ M) (hg : g < 4) (hy : y < 24) : jC d 198 [.ref M, .int (N g), .int (N y)] μ = some (none, clC μ (mA M g) y) := by
  obtain ⟨f0, f1, f2, f3, f4, f5⟩ := hq.f
  obtain ⟨a1, a2, a3, a4, a5, a6⟩ := hq.gr hg
  obtain ⟨g1, g2, g3, g4, g5, g6⟩ := hq.gk hg
  have k13 := hq.k13
  have e1 := ent_set (μ := μ) (v := N 0) g2.1 g2.2 hy (by decide)
  have e2 := ent_set (μ := jsetI μ (M + 8 + g) y (N 0)) (v := N 0) g3.1 g3.2 hy (by decide)
  have e3 := refSet (μ := jsetI (jsetI μ (M + 8 + g) y (N 0)) (M + 13 + g) y (N 0)) (a := M + 23 + g) (r := none) g5.1 g5.2 hy (by decide) (fun b hb => by cases hb)
  have e4 := ent_set (μ := jsetR (jsetI (jsetI μ (M + 8 + g) y (N 0)) (M + 13 + g) y (N 0)) (M + 23 + g) y none) (v := N 0) g4.1 g4.2 hy (by decide)
  have w1 : jaR (jsetI μ (M + 8 + g) y (N 0)) (.ref (M + 12)) (N g) = some (.ref (M + 13 + g)) := a3
  have w2 : jaR (jsetI (jsetI μ (M + 8 + g) y (N 0)) (M + 13 + g) y (N 0)) (.ref (M + 22)) (N g) = some (.ref (M + 23 + g)) := a5
  have w3 : jaR (jsetR (jsetI (jsetI μ (M + 8 + g) y (N 0)) (M + 13 + g) y (N 0)) (M + 23 + g) y none) (.ref (M + 17)) (N g) = some (.ref (M + 18 + g)) := by rw [aR_setR (by omega)]; exact a4
  have rvM : jrv (jsetR (jsetI (jsetI μ (M + 8 + g) y (N 0)) (M + 13 + g) y (N 0)) (M + 23 + g) y none) M = jrv μ M := rv_setRn (by omega)
  have e3' : jsR (jsetI (jsetI μ (M + 8 + g) y (N 0)) (M + 13 + g) y (N 0)) (.ref (M + 23 + g)) (N y) .null = some (jsetR (jsetI (jsetI μ (M + 8 + g) y (N 0)) (M + 13 + g) y (N 0)) (M + 23 + g) y none) := e3
  rw [jC_run (by decide)]
  show jR d 198 0 [.ref M, .int (N g), .int (N y)] [] μ = _
  rw [b198_0]
  simp only [N_lit, gI13, gR13, pI13, pR13, rv13, Option.bind_some, Option.bind_none, if_true, if_false, true_or, or_true, false_or, or_false, true_and, and_true, false_and, and_false, decide_eq_true_eq, decide_true, decide_false, eq_self, not_true_eq_false, not_false_eq_true, jfit0, N_lit, N_add, N_mul, NEG_eq, pl_none, pl_some, rf_some, rf_none, jun_ref, jun_null, ir_ref, ir_null, jr_rf, jun_rf, Option.toList_some, Option.toList_none, List.nil_append, List.cons_append, jk_setI, jk_setR, rv_setI, k13, f2, f3, f4, f5, a2, e1, w1, e2, w2, e3', rvM, w3, e4]
  rfl
theorem clC_fr : FMg M h μ (clC μ (mA M h) y) := by
  unfold clC putT putC
  refine Fx.setI (Fx.setR (Fx.setI (Fx.setI Fx.refl ?_) ?_) ?_) ?_
  · exact Or.inr (Or.inl rfl)
  · exact Or.inr (Or.inr (Or.inl rfl))
  · exact (rfl : M + 23 + h = M + 23 + h)
  · exact Or.inr (Or.inr (Or.inr rfl))
theorem jk_clC : jk (clC μ A y) = jk μ := by
  unfold clC putT putC
  simp only [jk_setI, jk_setR]
theorem clC_ref (hf : ∀ j b, jrv μ (M + 23 + h) j = some b → jk μ b = 20) : ∀ j b, jrv (clC μ (mA M h) y) (M + 23 + h) j = some b → jk (clC μ (mA M h) y) b = 20 := by
  rw [jk_clC]
  intro j b hb
  have hb : (if M + 23 + h = M + 23 + h ∧ j = y then none else jrv μ (M + 23 + h) j) = some b := hb
  split at hb
  · cases hb
  · exact hf j b hb
theorem rG_clC (hA : Aok A) (hc : c < 3) : rG (clC μ A (i * 3 + c)) A = (rG μ A).modify i (fun w => rset w c (zc none)) ∧ vN (clC μ A (i * 3 + c)) A = vN μ A := by
  unfold clC
  constructor
  · rw [rG_putT hA hc, rG_putC hA hc]
    refine List.ext_getElem? fun j => ?_
    rw [List.getElem?_modify, List.getElem?_modify, List.getElem?_modify]
    by_cases e : i = j
    · subst e
      simp only [if_true, Option.map_eq_map, Option.map_map]
      congr 1
      funext w
      show rset (rset w c _) c ((rcol (rset w c _) c).1, (rcol (rset w c _) c).2.1, (rcol (rset w c _) c).2.2.1, N 0) = _
      rcases (show c = 0 ∨ c = 1 ∨ c = 2 by omega) with rfl | rfl | rfl <;> rfl
    · simp only [if_neg e, Option.map_eq_map, Option.map_map]
      cases (rG μ A)[j]? <;> rfl
  · rw [vN_putT hA, vN_putC hA]
/-- a row opened at place t: its key is what was there -/
theorem r_opens (hq : QS μ M) (hG : GQ μ M g) (h8 : vN μ (mA M g) < 8) (ht : t ≤ vN μ (mA M g)) : ∃ μ' kk, jC (d + 2) 195 [.ref M, .int (N g), .int (N t)] μ = some (none, μ') ∧ FM1 M g μ μ' ∧ GQ μ' M g ∧ rG μ' (mA M g) = (rG μ (mA M g)).insertIdx t (kk, zc none, zc none, zc none) := by
  obtain ⟨hg, g1, g8, gf⟩ := hG
  have hA := mA_ok (M := M) hg
  have hro := hq.ro hg
  rw [g1] at hro
  have hlen : (rG μ (mA M g)).length = vN μ (mA M g) := len_rG _ _
  generalize hn : vN μ (mA M g) = n at *
  have hl0 : RWN μ (mA M g) n = rG μ (mA M g) := by rw [rG_m, hn]
  -- rows move on
  have loop : ∀ (m r : Nat) (μ1 : jM) (x : RW (Option Nat)), t + m = r → r ≤ n → FMg M g μ μ1 → QS μ1 M → (∀ j b, jrv μ1 (M + 23 + g) j = some b → jk μ1 b = 20) → RWN μ1 (mA M g) (n + 1) = (rG μ (mA M g)).insertIdx r x → ∃ μ2 x', jR (d + 2) 195 7 [.ref M, .int (N g), .int (N t), .int (N r)] [] μ1 = jR (d + 2) 195 7 [.ref M, .int (N g), .int (N t), .int (N t)] [] μ2 ∧ FMg M g μ μ2 ∧ QS μ2 M ∧ (∀ j b, jrv μ2 (M + 23 + g) j = some b → jk μ2 b = 20) ∧ RWN μ2 (mA M g) (n + 1) = (rG μ (mA M g)).insertIdx t x' := by
    intro m
    induction m with
    | zero =>
      intro r μ1 x hi hr F q hf1 hv
      rw [Nat.add_zero] at hi
      subst hi
      exact ⟨μ1, x, rfl, F, q, hf1, hv⟩
    | succ m ih =>
      intro r μ1 x hi hr F q hf1 hv
      have c1 := r_copyRow (d := d) (i := r - 1) (k := r) q hg hg (by omega) (by omega) hf1 hf1
      have Fc : FMg M g μ1 (cpR μ1 (mA M g) (r - 1) (mA M g) r) := cpR_fr
      have hy : (rG μ (mA M g))[r - 1]? = some (rowAt μ1 (mA M g) (r - 1)) := by
        have := RWN_get (μ := μ1) (A := mA M g) (show r - 1 < n + 1 by omega)
        rw [hv, List.getElem?_insertIdx, if_pos (by omega)] at this
        exact this
      have hset : RWN (cpR μ1 (mA M g) (r - 1) (mA M g) r) (mA M g) (n + 1) = (rG μ (mA M g)).insertIdx (r - 1) (rowAt μ1 (mA M g) (r - 1)) := by
        rw [RL_cpR hA (Or.inl rfl) (mA_key hg hg) (show r < n + 1 by omega), hv]
        exact ins_back (by omega) (by omega) hy
      obtain ⟨μ2, x', v1, v2⟩ := ih (r - 1) _ _ (by omega) (by omega) (F.trans Fc) (Fc.qs hg q) (fun j b hb => cpR_ref hf1 hf1 j b hb) hset
      refine ⟨μ2, x', ?_, v2⟩
      rw [b195_7, if_pos (by rw [N_lt (by omega) (by omega)]; omega)]
      simp only [N_lit, N_sub (show 1 ≤ r by omega), gI13, gR13, pI13, pR13, rv13, Option.bind_some, Option.bind_none, if_true, if_false, true_or, or_true, false_or, or_false, true_and, and_true, false_and, and_false, decide_eq_true_eq, decide_true, decide_false, eq_self, not_true_eq_false, not_false_eq_true, jfit0, N_lit, N_add, N_mul, NEG_eq, pl_none, pl_some, rf_some, rf_none, jun_ref, jun_null, ir_ref, ir_null, jr_rf, jun_rf, Option.toList_some, Option.toList_none, List.nil_append, List.cons_append, q.k13, c1]
      rw [b195_22]
      simp only [N_lit, NEG_eq, N_pred (show 1 ≤ r by omega)]
      exact v1
  have hstart : RWN μ (mA M g) (n + 1) = (rG μ (mA M g)).insertIdx n (rowAt μ (mA M g) n) := by
    rw [show (rG μ (mA M g)).insertIdx n (rowAt μ (mA M g) n) = rG μ (mA M g) ++ [rowAt μ (mA M g) n] from by
      have := ins_len (m := rG μ (mA M g)) (x := rowAt μ (mA M g) n)
      rw [hlen] at this
      exact this, ← hl0]
    exact mkL_succ
  obtain ⟨μ2, x', v1, F2, q2, f2, hv2⟩ := loop (n - t) n μ _ (by omega) (Nat.le_refl _) FMg.refl hq gf hstart
  -- the count, then the cells
  have r2 : jiv μ2 (M + 1) g = N n := by
    rw [F2.iv (by show ¬ SMg M g (M + 1); unfold SMg; omega)]; exact g1
  have q3 : QS (jsetI μ2 (M + 1) g (N (n + 1))) M := q2.set
  have F3 : FM1 M g μ (jsetI μ2 (M + 1) g (N (n + 1))) := (F2.f1 hg).trans ⟨Fx.setI Fx.refl (Or.inl rfl), fun j hj => by
    simp only [ty_setI, ty_setR, ty_rowI, ty_rowR, jk_setI, jk_setR, jk_rowI, jk_rowR, jl_setI, jl_setR, jl_rowI, jl_rowR, sz_setI, sz_setR, sz_rowI, sz_rowR, ext_setI, ext_setR, iv_setI, iv_setR, iv_rowI, iv_rowR, rv_setI, rv_setR, rv_rowI, rv_rowR, iv_setIn, iv_rowIn, rv_setRn, rv_rowRn, iv_rowIe, rv_rowRe, true_and]
    rw [if_neg hj]⟩
  have vn3 : vN (jsetI μ2 (M + 1) g (N (n + 1))) (mA M g) = n + 1 := by
    rw [vN_m]
    simp only [ty_setI, ty_setR, ty_rowI, ty_rowR, jk_setI, jk_setR, jk_rowI, jk_rowR, jl_setI, jl_setR, jl_rowI, jl_rowR, sz_setI, sz_setR, sz_rowI, sz_rowR, ext_setI, ext_setR, iv_setI, iv_setR, iv_rowI, iv_rowR, rv_setI, rv_setR, rv_rowI, rv_rowR, iv_setIn, iv_rowIn, rv_setRn, rv_rowRn, iv_rowIe, rv_rowRe, and_self, if_true]
    exact N_nat (by omega)
  have rg3 : rG (jsetI μ2 (M + 1) g (N (n + 1))) (mA M g) = (rG μ (mA M g)).insertIdx t x' := by
    rw [rG_m, vn3, ← hv2]
    unfold RWN
    have k1 : jiv (jsetI μ2 (M + 1) g (N (n + 1))) ((mA M g).1 1) = jiv μ2 ((mA M g).1 1) := iv_setIn (show ¬ M + 3 + g = M + 1 by omega)
    have k2 : rc (jsetI μ2 (M + 1) g (N (n + 1))) (mA M g) = rc μ2 (mA M g) := by
      funext z
      unfold rc
      rw [iv_setIn (show ¬ (mA M g).1 2 = M + 1 by show ¬ M + 8 + g = M + 1; omega), iv_setIn (show ¬ (mA M g).1 3 = M + 1 by show ¬ M + 13 + g = M + 1; omega), iv_setIn (show ¬ (mA M g).1 5 = M + 1 by show ¬ M + 18 + g = M + 1; omega), rv_setI]
    rw [k1, k2]
  have hr3 : jiv (jsetI μ2 (M + 1) g (N (n + 1))) (M + 1) g = N (n + 1) := by simp [iv_setI]
  have f3 : ∀ j b, jrv (jsetI μ2 (M + 1) g (N (n + 1))) (M + 23 + g) j = some b → jk (jsetI μ2 (M + 1) g (N (n + 1))) b = 20 := f2
  have hrun : jR (d + 2) 195 7 [.ref M, .int (N g), .int (N t), .int (N t)] [] μ2 = jR (d + 2) 195 40 [.ref M, .int (N g), .int (N t), .int (N 0)] [] (jsetI μ2 (M + 1) g (N (n + 1))) := by
    have ro := q2.ro hg
    rw [r2] at ro
    rw [b195_7, if_neg (by rw [N_lt (by omega) (by omega)]; omega)]
    simp only [N_lit, gI13, gR13, pI13, pR13, rv13, Option.bind_some, Option.bind_none, if_true, if_false, true_or, or_true, false_or, or_false, true_and, and_true, false_and, and_false, decide_eq_true_eq, decide_true, decide_false, eq_self, not_true_eq_false, not_false_eq_true, jfit0, N_lit, N_add, N_mul, NEG_eq, pl_none, pl_some, rf_some, rf_none, jun_ref, jun_null, ir_ref, ir_null, jr_rf, jun_rf, Option.toList_some, Option.toList_none, List.nil_append, List.cons_append, q2.k13, q2.f.1, ro, q2.rs hg]
  generalize jsetI μ2 (M + 1) g (N (n + 1)) = μ3 at *
  have cl : ∀ (μ0 : jM) (c : Nat), c < 3 → QS μ0 M → jR (d + 2) 195 40 [.ref M, .int (N g), .int (N t), .int (N c)] [] μ0 = jR (d + 2) 195 40 [.ref M, .int (N g), .int (N t), .int (N (c + 1))] [] (clC μ0 (mA M g) (t * 3 + c)) := by
    intro μ0 c hc q0
    have c1 := r_clearCell (d := d + 1) (y := t * 3 + c) q0 hg (by omega)
    rw [b195_40, if_pos (by show N c < N 3; rw [N_lt (by omega) (by decide)]; exact hc)]
    simp only [N_lit, N_mul, N_add, Nat.mul_comm 3, gI13, gR13, pI13, pR13, rv13, Option.bind_some, Option.bind_none, if_true, if_false, true_or, or_true, false_or, or_false, true_and, and_true, false_and, and_false, decide_eq_true_eq, decide_true, decide_false, eq_self, not_true_eq_false, not_false_eq_true, jfit0, N_lit, N_add, N_mul, NEG_eq, pl_none, pl_some, rf_some, rf_none, jun_ref, jun_null, ir_ref, ir_null, jr_rf, jun_rf, Option.toList_some, Option.toList_none, List.nil_append, List.cons_append, q0.k13, c1]
    rw [b195_55]
    simp only [N_lit, N_add]
  have C0 := clC_fr (M := M) (h := g) (μ := μ3) (y := t * 3 + 0)
  have q4 := C0.qs hg q3
  have C1 := clC_fr (M := M) (h := g) (μ := clC μ3 (mA M g) (t * 3 + 0)) (y := t * 3 + 1)
  have q5 := C1.qs hg q4
  have C2 := clC_fr (M := M) (h := g) (μ := clC (clC μ3 (mA M g) (t * 3 + 0)) (mA M g) (t * 3 + 1)) (y := t * 3 + 2)
  have q6 := C2.qs hg q5
  obtain ⟨e0, w0⟩ := rG_clC (μ := μ3) (i := t) hA (show 0 < 3 by decide)
  obtain ⟨e1, w1⟩ := rG_clC (μ := clC μ3 (mA M g) (t * 3 + 0)) (i := t) hA (show 1 < 3 by decide)
  obtain ⟨e2, w2⟩ := rG_clC (μ := clC (clC μ3 (mA M g) (t * 3 + 0)) (mA M g) (t * 3 + 1)) (i := t) hA (show 2 < 3 by decide)
  refine ⟨clC (clC (clC μ3 (mA M g) (t * 3 + 0)) (mA M g) (t * 3 + 1)) (mA M g) (t * 3 + 2), x'.1, ?_, F3.trans ((C0.trans (C1.trans C2)).f1 hg), ⟨hg, ?_, ?_, ?_⟩, ?_⟩
  · rw [jC_run (by decide)]
    show jR (d + 2) 195 0 [.ref M, .int (N g), .int (N t), .retAddr 0] [] μ = _
    rw [b195_0]
    simp only [gI13, gR13, pI13, pR13, rv13, Option.bind_some, Option.bind_none, if_true, if_false, true_or, or_true, false_or, or_false, true_and, and_true, false_and, and_false, decide_eq_true_eq, decide_true, decide_false, eq_self, not_true_eq_false, not_false_eq_true, jfit0, N_lit, N_add, N_mul, NEG_eq, pl_none, pl_some, rf_some, rf_none, jun_ref, jun_null, ir_ref, ir_null, jr_rf, jun_rf, Option.toList_some, Option.toList_none, List.nil_append, List.cons_append, hq.k13, hq.f.1, hro]
    rw [v1, hrun, cl _ 0 (by decide) q3, cl _ 1 (by decide) q4, cl _ 2 (by decide) q5, b195_40, if_neg (by decide)]
  · rw [w2, w1, w0, vn3, (C0.trans (C1.trans C2)).iv (by show ¬ SMg M g (M + 1); unfold SMg; omega)]
    exact hr3
  · rw [w2, w1, w0, vn3]; omega
  · exact clC_ref (clC_ref (clC_ref f3))
  · rw [e2, e1, e0, rg3]
    refine List.ext_getElem? fun j => ?_
    simp only [List.getElem?_modify, List.getElem?_insertIdx]
    by_cases ej : t = j
    · subst ej
      simp only [Nat.lt_irrefl, if_false, if_true, hlen, ht, Option.map_eq_map, Option.map_some]
      rfl
    · simp only [if_neg ej, Option.map_eq_map, Option.map_id']
      have : (fun a : RW (Option Nat) => a) = id := rfl
      by_cases h1 : j < t
      · simp only [if_pos h1, id_map']
      · simp only [if_neg h1, if_neg (show ¬ j = t from fun g => ej g.symm)]
end REF
