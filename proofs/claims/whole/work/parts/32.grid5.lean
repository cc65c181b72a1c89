/-! THE METHODS OF Grid: a row comes, goes, is as another grid's -/
def zc {φ : Type} (z : φ) : RC φ := (N 0, N 0, z, N 0)
theorem modify_last {α : Type} {l : List α} {w : α} {f : α → α} : (l ++ [w]).modify l.length f = l ++ [f w] := by
  apply List.ext_getElem?
  intro j
  rw [List.getElem?_modify, List.getElem?_append, List.getElem?_append]
  by_cases h : j < l.length
  · have e : ¬ l.length = j := by omega
    simp [h, e]
  · by_cases e : l.length = j
    · subst e; simp
    · have e2 : j - l.length ≠ 0 := by omega
      simp [h, e, List.getElem?_cons, e2]
section GRID
variable {μ μ' : jM} {g h d : Nat}
theorem x_insertRow {t : Nat} {k : Int32} (hs : Gs μ g) (hn : Gn μ g) (h8 : vN μ (xA g) < 8) (ht : t ≤ vN μ (xA g)) : ∃ μ', jC (d + 3) 93 [.ref g, .int (N t), .int k] μ = some (none, μ') ∧ FG g μ μ' ∧ Gs μ' g ∧ Gn μ' g ∧ rG μ' (xA g) = (rG μ (xA g)).insertIdx t (k, zc none, zc none, zc none) := by
  obtain ⟨hn1, hn2⟩ := hn
  generalize hv : vN μ (xA g) = n at *
  have b0 : n < 2147483648 := by omega
  have b8 : (8 : Nat) < 2147483648 := by decide
  have b3 : (3 : Nat) < 2147483648 := by decide
  have b00 : (0 : Nat) < 2147483648 := by decide
  have b01 : (1 : Nat) < 2147483648 := by decide
  have b02 : (2 : Nat) < 2147483648 := by decide
  -- the row laid behind all
  have hex : ∃ m1, m1 = jsetI (jsetI μ g 0 (N (n + 1))) (g + 1) n k := ⟨_, rfl⟩
  obtain ⟨m1, hm1⟩ := hex
  have v1 : vN m1 (xA g) = n + 1 := by
    rw [hm1]
    simp only [vN, xA, ty_setI, ty_setR, ty_rowI, ty_rowR, jk_setI, jk_setR, jk_rowI, jk_rowR, jl_setI, jl_setR, jl_rowI, jl_rowR, sz_setI, sz_setR, sz_rowI, sz_rowR, ext_setI, ext_setR, iv_setI, iv_setR, iv_rowI, iv_rowR, rv_setI, rv_setR, rv_rowI, rv_rowR, iv_setIn, iv_rowIn, rv_setRn, rv_rowRn, iv_rowIe, rv_rowRe, show ¬ g = g + 1 by omega, false_and, if_false, Nat.add_zero, and_self, if_true, N_nat (show n + 1 < 2147483648 by omega)]
  have s1 : Gs m1 g := by rw [hm1]; exact gs_setI (gs_setI hs)
  have n1 : Gn m1 g := by
    unfold Gn
    rw [v1]
    refine ⟨?_, by omega⟩
    rw [hm1]
    simp only [ty_setI, ty_setR, ty_rowI, ty_rowR, jk_setI, jk_setR, jk_rowI, jk_rowR, jl_setI, jl_setR, jl_rowI, jl_rowR, sz_setI, sz_setR, sz_rowI, sz_rowR, ext_setI, ext_setR, iv_setI, iv_setR, iv_rowI, iv_rowR, rv_setI, rv_setR, rv_rowI, rv_rowR, iv_setIn, iv_rowIn, rv_setRn, rv_rowRn, iv_rowIe, rv_rowRe, show ¬ g = g + 1 by omega, false_and, if_false, and_self, if_true]
  have f1 : FG g μ m1 := by
    rw [hm1]
    exact (Fx.refl.setI (by show g ≤ g ∧ g < g + 6; omega)).setI (by show g ≤ g + 1 ∧ g + 1 < g + 6; omega)
  have hlen : (rG μ (xA g)).length = n := by rw [len_rG, hv]
  obtain ⟨w, hw⟩ : ∃ w : RC (Option Nat) × RC (Option Nat) × RC (Option Nat), rG m1 (xA g) = rG μ (xA g) ++ [(k, w)] := by
    refine ⟨(rc μ (xA g) (n * 3), rc μ (xA g) (n * 3 + 1), rc μ (xA g) (n * 3 + 2)), ?_⟩
    unfold rG
    rw [v1, hv, mkL_succ]
    have er : rc m1 (xA g) = rc μ (xA g) := by
      rw [hm1]
      funext z
      simp only [rc, xA, ty_setI, ty_setR, ty_rowI, ty_rowR, jk_setI, jk_setR, jk_rowI, jk_rowR, jl_setI, jl_setR, jl_rowI, jl_rowR, sz_setI, sz_setR, sz_rowI, sz_rowR, ext_setI, ext_setR, iv_setI, iv_setR, iv_rowI, iv_rowR, rv_setI, rv_setR, rv_rowI, rv_rowR, iv_setIn, iv_rowIn, rv_setRn, rv_rowRn, iv_rowIe, rv_rowRe, show ¬ g + 2 = g + 1 by omega, show ¬ g + 2 = g by omega, show ¬ g + 3 = g + 1 by omega, show ¬ g + 3 = g by omega, show ¬ g + 5 = g + 1 by omega, show ¬ g + 5 = g by omega, not_false_eq_true, false_and, if_false]
    have ek : ∀ i, jiv m1 ((xA g).1 1) i = if i = n then k else jiv μ (g + 1) i := by
      intro i
      rw [hm1]
      simp only [xA, ty_setI, ty_setR, ty_rowI, ty_rowR, jk_setI, jk_setR, jk_rowI, jk_rowR, jl_setI, jl_setR, jl_rowI, jl_rowR, sz_setI, sz_setR, sz_rowI, sz_rowR, ext_setI, ext_setR, iv_setI, iv_setR, iv_rowI, iv_rowR, rv_setI, rv_setR, rv_rowI, rv_rowR, iv_setIn, iv_rowIn, rv_setRn, rv_rowRn, iv_rowIe, rv_rowRe, show ¬ g + 1 = g by omega, true_and, false_and, if_false]
    rw [er]
    congr 1
    · refine mkL_congr (fun i hi => ?_) (fun _ _ => rfl)
      rw [ek, if_neg (by omega)]; rfl
    · rw [ek, if_pos rfl]
  -- a column emptied
  have col : ∀ (m : jM) (c : Nat), c < 3 → Gs m g → Gn m g → vN m (xA g) = n + 1 → ∃ m', jR (d + 3) 93 35 [.ref g, .int (N t), .int k, .int (N n), .int (N c)] [] m = jR (d + 3) 93 35 [.ref g, .int (N t), .int k, .int (N n), .int (N (c + 1))] [] m' ∧ FG g m m' ∧ Gs m' g ∧ Gn m' g ∧ vN m' (xA g) = n + 1 ∧ rG m' (xA g) = lset (lset (rG m (xA g)) (some n) c (fun x => (N 0, N 0, none, x.2.2.2))) (some n) c (fun x => (x.1, x.2.1, x.2.2.1, N 0)) := by
    intro m c hc q1 q2 q3
    have bc : c < 2147483648 := by omega
    have hp : ∀ i, some n = some i → i < 1000 := fun i e => by cases e; omega
    have hf : ∀ b, (none : Option Nat) = some b → jk m b = 5 := fun b e => by cases e
    refine ⟨setT (setC m (xA g) (some n) c (N 0) (N 0) none) (xA g) (some n) c (N 0), ?_, fg_setC.trans fg_setT, gs_setT (gs_setC q1 hf), gn_setT (gn_setC q2), by rw [vN_setT (xA_ok g), vN_setC (xA_ok g)]; exact q3, by rw [rG_setT (xA_ok g) hc, rG_setC (xA_ok g) hc]⟩
    have e1 := x_setContent (d := d + 1) (k := N 0) (n := N 0) q1 q2 hp hc hf
    have e2 := x_setNote (d := d + 1) (t := N 0) (gs_setC (p := some n) (c := c) (k := N 0) (n := N 0) q1 hf) (gn_setC (p := some n) (c := c) (k := N 0) (n := N 0) (f := none) q2) hp hc
    simp only [pl_some, rf_none] at e1 e2
    rw [b93_35]
    simp only [gI6, gR6, pI6, pR6, rv6, aI_eq, aB_eq, aR_eq, sI_eq, sB_eq, sR_eq, Option.bind_some, Option.bind_none, if_true, if_false, true_or, or_true, false_or, or_false, true_and, and_true, false_and, and_false, decide_eq_true_eq, decide_true, decide_false, eq_self, not_true_eq_false, not_false_eq_true, jfit0, N_lit, N_add, N_mul, NEG_eq, pl_none, pl_some, rf_some, rf_none, jun_ref, jun_null, ir_ref, ir_null, jr_rf, jun_rf, Option.toList_some, Option.toList_none, List.nil_append, List.cons_append, N_lt bc b3, hc, q1.1, e1, b93_51, (gs_setC (p := some n) (c := c) (k := N 0) (n := N 0) q1 hf).1, e2, b93_59]
  obtain ⟨m2, a1, a2, a3, a4, a5, a6⟩ := col m1 0 (by decide) s1 n1 v1
  obtain ⟨m3, c1, c2, c3, c4, c5, c6⟩ := col m2 1 (by decide) a3 a4 a5
  obtain ⟨m4, e1, e2, e3, e4, e5, e6⟩ := col m3 2 (by decide) c3 c4 c5
  have hrow : rG m4 (xA g) = rG μ (xA g) ++ [(k, zc none, zc none, zc none)] := by
    rw [e6, c6, a6, hw]
    unfold lset
    simp only
    have ml : ∀ (x : RW (Option Nat)) (f : RW (Option Nat) → RW (Option Nat)), (rG μ (xA g) ++ [x]).modify n f = rG μ (xA g) ++ [f x] := fun x f => by rw [← hlen]; exact modify_last
    simp only [ml]
    rfl
  obtain ⟨m5, g1, g2, g3, g4, g5⟩ := x_moveRow (d := d) (p := n) (t := t) e3 e4 (by omega) (by omega)
  refine ⟨m5, ?_, (((f1.trans a2).trans c2).trans e2).trans g2, g3, g4, ?_⟩
  · rw [jC_run (by decide)]
    show jR (d + 3) 93 0 [.ref g, .int (N t), .int k, .retAddr 0, .retAddr 0] [] μ = _
    rw [b93_0]
    simp only [gI6, gR6, pI6, pR6, rv6, aI_eq, aB_eq, aR_eq, sI_eq, sB_eq, sR_eq, Option.bind_some, Option.bind_none, if_true, if_false, true_or, or_true, false_or, or_false, true_and, and_true, false_and, and_false, decide_eq_true_eq, decide_true, decide_false, eq_self, not_true_eq_false, not_false_eq_true, jfit0, N_lit, N_add, N_mul, NEG_eq, pl_none, pl_some, rf_some, rf_none, jun_ref, jun_null, ir_ref, ir_null, jr_rf, jun_rf, Option.toList_some, Option.toList_none, List.nil_append, List.cons_append, ty_setI, ty_setR, ty_rowI, ty_rowR, jk_setI, jk_setR, jk_rowI, jk_rowR, jl_setI, jl_setR, jl_rowI, jl_rowR, sz_setI, sz_setR, sz_rowI, sz_rowR, ext_setI, ext_setR, iv_setI, iv_setR, iv_rowI, iv_rowR, rv_setI, rv_setR, rv_rowI, rv_rowR, iv_setIn, iv_rowIn, rv_setRn, rv_rowRn, iv_rowIe, rv_rowRe, hs.1, hs.2.1, hn1, N_lt b0 b8, h8, jinb_N b0, N_nat b0]
    rw [← hm1, a1, c1, e1, b93_35]
    simp only [gI6, gR6, pI6, pR6, rv6, aI_eq, aB_eq, aR_eq, sI_eq, sB_eq, sR_eq, Option.bind_some, Option.bind_none, if_true, if_false, true_or, or_true, false_or, or_false, true_and, and_true, false_and, and_false, decide_eq_true_eq, decide_true, decide_false, eq_self, not_true_eq_false, not_false_eq_true, jfit0, N_lit, N_add, N_mul, NEG_eq, pl_none, pl_some, rf_some, rf_none, jun_ref, jun_null, ir_ref, ir_null, jr_rf, jun_rf, Option.toList_some, Option.toList_none, List.nil_append, List.cons_append, N_lt (show 2 + 1 < 2147483648 by decide) b3, Nat.lt_irrefl, e3.1, g1, b93_71, Nat.reduceAdd]
  · rw [g5, hrow, ← hlen]
    exact lmove_in (by rw [hlen]; exact ht)
theorem x_removeRow {p : Nat} (hs : Gs μ g) (hn : Gn μ g) (hp : p < vN μ (xA g)) : ∃ μ', jC (d + 3) 98 [.ref g, .int (N p)] μ = some (none, μ') ∧ FG g μ μ' ∧ Gs μ' g ∧ Gn μ' g ∧ rG μ' (xA g) = (rG μ (xA g)).eraseIdx p := by
  have hn8 := hn.2
  have b0 : p < 2147483648 := by omega
  have b1 : vN μ (xA g) < 2147483648 := by omega
  have b2 : (0 : Nat) < 2147483648 := by decide
  obtain ⟨m, r1, r2, r3, r4, r5⟩ := x_moveRow (d := d) (t := vN μ (xA g) - 1) hs hn hp (by omega)
  have hv : vN m (xA g) = vN μ (xA g) := by
    have := congrArg List.length r5
    rw [len_lmove, len_rG, len_rG] at this
    exact this
  have v1 : vN (jsetI m g 0 (N (vN μ (xA g) - 1))) (xA g) = vN μ (xA g) - 1 := by
    simp only [vN, xA, ty_setI, ty_setR, ty_rowI, ty_rowR, jk_setI, jk_setR, jk_rowI, jk_rowR, jl_setI, jl_setR, jl_rowI, jl_rowR, sz_setI, sz_setR, sz_rowI, sz_rowR, ext_setI, ext_setR, iv_setI, iv_setR, iv_rowI, iv_rowR, rv_setI, rv_setR, rv_rowI, rv_rowR, iv_setIn, iv_rowIn, rv_setRn, rv_rowRn, iv_rowIe, rv_rowRe, Nat.add_zero, and_self, if_true, true_and]
    exact N_nat (by have b4 : (jiv μ g 0).toNatClampNeg < 2147483648 := b1; omega)
  refine ⟨jsetI m g 0 (N (vN μ (xA g) - 1)), ?_, r2.trans (Fx.refl.setI (by show g ≤ g ∧ g < g + 6; omega)), gs_setI r3, ?_, ?_⟩
  · rw [jC_run (by decide)]
    show jR (d + 3) 98 0 [.ref g, .int (N p)] [] μ = _
    rw [b98_0]
    simp only [gI6, gR6, pI6, pR6, rv6, aI_eq, aB_eq, aR_eq, sI_eq, sB_eq, sR_eq, Option.bind_some, Option.bind_none, if_true, if_false, true_or, or_true, false_or, or_false, true_and, and_true, false_and, and_false, decide_eq_true_eq, decide_true, decide_false, eq_self, not_true_eq_false, not_false_eq_true, jfit0, N_lit, N_add, N_mul, NEG_eq, pl_none, pl_some, rf_some, rf_none, jun_ref, jun_null, ir_ref, ir_null, jr_rf, jun_rf, Option.toList_some, Option.toList_none, List.nil_append, List.cons_append, hs.1, hn.1, N_lt b0 b2, N_lt b0 b1, Nat.not_lt_zero, hp, N_sub (show 1 ≤ vN μ (xA g) by omega), r1, b98_23, b98_33, r3.1, r4.1, hv]
  · unfold Gn
    rw [v1]
    refine ⟨?_, by omega⟩
    simp only [ty_setI, ty_setR, ty_rowI, ty_rowR, jk_setI, jk_setR, jk_rowI, jk_rowR, jl_setI, jl_setR, jl_rowI, jl_rowR, sz_setI, sz_setR, sz_rowI, sz_rowR, ext_setI, ext_setR, iv_setI, iv_setR, iv_rowI, iv_rowR, rv_setI, rv_setR, rv_rowI, rv_rowR, iv_setIn, iv_rowIn, rv_setRn, rv_rowRn, iv_rowIe, rv_rowRe, and_self, if_true]
  · have e1 : rG (jsetI m g 0 (N (vN μ (xA g) - 1))) (xA g) = (rG m (xA g)).take (vN μ (xA g) - 1) := by
      unfold rG
      rw [v1, hv, ← mkL_take (by omega)]
      refine mkL_congr (fun i _ => ?_) (fun i _ => ?_)
      · simp only [xA, ty_setI, ty_setR, ty_rowI, ty_rowR, jk_setI, jk_setR, jk_rowI, jk_rowR, jl_setI, jl_setR, jl_rowI, jl_rowR, sz_setI, sz_setR, sz_rowI, sz_rowR, ext_setI, ext_setR, iv_setI, iv_setR, iv_rowI, iv_rowR, rv_setI, rv_setR, rv_rowI, rv_rowR, iv_setIn, iv_rowIn, rv_setRn, rv_rowRn, iv_rowIe, rv_rowRe, show ¬ g + 1 = g by omega, false_and, if_false]
      · simp only [rc, xA, ty_setI, ty_setR, ty_rowI, ty_rowR, jk_setI, jk_setR, jk_rowI, jk_rowR, jl_setI, jl_setR, jl_rowI, jl_rowR, sz_setI, sz_setR, sz_rowI, sz_rowR, ext_setI, ext_setR, iv_setI, iv_setR, iv_rowI, iv_rowR, rv_setI, rv_setR, rv_rowI, rv_rowR, iv_setIn, iv_rowIn, rv_setRn, rv_rowRn, iv_rowIe, rv_rowRe, show ¬ g + 2 = g by omega, show ¬ g + 3 = g by omega, show ¬ g + 5 = g by omega, not_false_eq_true, false_and, if_false]
    rw [e1, r5]
    have hl := len_rG μ (xA g)
    rw [← hl]
    exact lmove_out (by rw [hl]; exact hp)
/-- a row's cells are these -/
def lrow {φ : Type} (l : List (RW φ)) (i : Nat) (a b c : RC φ) : List (RW φ) := l.modify i fun w => (w.1, a, b, c)
theorem x_rowAsIn {i : Nat} {q : Option Nat} (hs : Gs μ g) (hn : Gn μ g) (hs' : Gs μ h) (hn' : Gn μ h) (hd : g + 6 ≤ h ∨ h + 6 ≤ g) (hi : i < 1000) (hq : ∀ i, q = some i → i < 1000) : ∃ μ', jC (d + 2) 108 [.ref g, .ref h, .int (pl q), .int (N i)] μ = some (none, μ') ∧ FG g μ μ' ∧ Gs μ' g ∧ Gn μ' g ∧ rG μ' (xA g) = lrow (rG μ (xA g)) i (cO none (rG μ (xA h)) q 0) (cO none (rG μ (xA h)) q 1) (cO none (rG μ (xA h)) q 2) := by
  have b3 : (3 : Nat) < 2147483648 := by decide
  have hp : ∀ j, some i = some j → j < 1000 := fun j e => by cases e; exact hi
  have col : ∀ (m : jM) (c : Nat), c < 3 → FG g μ m → Gs m g → Gn m g → ∃ m', jR (d + 2) 108 3 [.ref g, .ref h, .int (pl q), .int (N i), .int (N c)] [] m = jR (d + 2) 108 3 [.ref g, .ref h, .int (pl q), .int (N i), .int (N (c + 1))] [] m' ∧ FG g μ m' ∧ Gs m' g ∧ Gn m' g ∧ rG m' (xA g) = (rG m (xA g)).modify i (fun w => rset w c (cO none (rG μ (xA h)) q c)) := by
    intro m c hc q0 q1 q2
    have bc : c < 2147483648 := by omega
    obtain ⟨er, ev⟩ := q0.rows hd
    have s' := q0.gs' hd hs'
    have n' := q0.gn' hd hn'
    have hf : ∀ b, (cO none (rG m (xA h)) q c).2.2.1 = some b → jk m b = 5 := by
      intro b hb
      have hcO : cO none (rG m (xA h)) q c = _ := cO_mkL hc
      rw [hcO] at hb
      split at hb
      · exact s'.2.2 _ b hb
      · cases hb
    have t1 := x_contentAsIn (d := d) (p := some i) (q := q) q1 q2 s' n' (by unfold Dj; omega) hp hq hc
    have g1 := gs_setC (p := some i) (c := c) (k := (cO none (rG m (xA h)) q c).1) (n := (cO none (rG m (xA h)) q c).2.1) q1 hf
    have g2 := gn_setC (p := some i) (c := c) (k := (cO none (rG m (xA h)) q c).1) (n := (cO none (rG m (xA h)) q c).2.1) (f := (cO none (rG m (xA h)) q c).2.2.1) q2
    have g3 : FG g m _ := fg_setC (μ := m) (p := some i) (c := c) (k := (cO none (rG m (xA h)) q c).1) (n := (cO none (rG m (xA h)) q c).2.1) (f := (cO none (rG m (xA h)) q c).2.2.1)
    have t2 := x_noteAt (d := d) (p := q) (g3.gs' hd s') (g3.gn' hd n') hq hc
    rw [(g3.rows hd).1] at t2
    have t3 := x_setNote (d := d) (p := some i) (c := c) (t := (cO none (rG m (xA h)) q c).2.2.2) g1 g2 hp hc
    rw [er] at t1 t2 t3 g1 g2 g3 hf
    refine ⟨setT (setC m (xA g) (some i) c (cO none (rG μ (xA h)) q c).1 (cO none (rG μ (xA h)) q c).2.1 (cO none (rG μ (xA h)) q c).2.2.1) (xA g) (some i) c (cO none (rG μ (xA h)) q c).2.2.2, ?_, (q0.trans g3).trans fg_setT, gs_setT g1, gn_setT g2, ?_⟩
    · rw [pl_some] at t1 t3
      rw [b108_3 (h1 := ir_ref)]
      simp only [gI6, gR6, pI6, pR6, rv6, aI_eq, aB_eq, aR_eq, sI_eq, sB_eq, sR_eq, Option.bind_some, Option.bind_none, if_true, if_false, true_or, or_true, false_or, or_false, true_and, and_true, false_and, and_false, decide_eq_true_eq, decide_true, decide_false, eq_self, not_true_eq_false, not_false_eq_true, jfit0, N_lit, N_add, N_mul, NEG_eq, pl_none, pl_some, rf_some, rf_none, jun_ref, jun_null, ir_ref, ir_null, jr_rf, jun_rf, Option.toList_some, Option.toList_none, List.nil_append, List.cons_append, N_lt bc b3, hc, q1.1, t1, b108_18, (g3.gs' hd s').1, t2, b108_29, g1.1, t3, b108_32]
    · rw [rG_setT (xA_ok g) hc, rG_setC (xA_ok g) hc]
      unfold lset
      simp only
      apply List.ext_getElem?
      intro j
      simp only [List.getElem?_modify]
      by_cases e : i = j
      · subst e
        cases (rG m (xA g))[i]? with
        | none => rfl
        | some w =>
          obtain rfl | rfl | rfl : c = 0 ∨ c = 1 ∨ c = 2 := by omega
          all_goals simp [rset, rcol]
      · simp only [if_neg e]
        cases (rG m (xA g))[j]? <;> rfl
  obtain ⟨m1, a1, a2, a3, a4, a5⟩ := col μ 0 (by decide) FG.refl hs hn
  obtain ⟨m2, c1, c2, c3, c4, c5⟩ := col m1 1 (by decide) a2 a3 a4
  obtain ⟨m3, e1, e2, e3, e4, e5⟩ := col m2 2 (by decide) c2 c3 c4
  refine ⟨m3, ?_, e2, e3, e4, ?_⟩
  · rw [jC_run (by decide)]
    show jR (d + 2) 108 0 [.ref g, .ref h, .int (pl q), .int (N i), .retAddr 0] [] μ = _
    rw [b108_0 (h1 := ir_ref)]
    rw [N_lit, a1, c1, e1, b108_3 (h1 := ir_ref)]
    simp only [aI_eq, aB_eq, aR_eq, sI_eq, sB_eq, sR_eq, Option.bind_some, Option.bind_none, if_true, if_false, true_or, or_true, false_or, or_false, true_and, and_true, false_and, and_false, decide_eq_true_eq, decide_true, decide_false, eq_self, not_true_eq_false, not_false_eq_true, jfit0, N_lit, N_add, N_mul, NEG_eq, pl_none, pl_some, rf_some, rf_none, jun_ref, jun_null, ir_ref, ir_null, jr_rf, jun_rf, Option.toList_some, Option.toList_none, List.nil_append, List.cons_append, N_lt (show 2 + 1 < 2147483648 by decide) b3, Nat.lt_irrefl, Nat.reduceAdd]
  · rw [e5, c5, a5]
    unfold lrow
    apply List.ext_getElem?
    intro j
    simp only [List.getElem?_modify]
    by_cases e : i = j
    · subst e
      cases (rG μ (xA g))[i]? with
      | none => rfl
      | some w => simp [rset]
    · simp only [if_neg e]
      cases (rG μ (xA g))[j]? <;> rfl
theorem x_keyBelow {k : Int32} {n : Nat} (hs : Gs μ g) (hn : Gn μ g) (hn1 : n < 1000) : jC (d + 1) 104 [.ref g, .int k, .int (N n)] μ = some (some (.int (match lfind k (rG μ (xA g)) with | some i => keyO (rG μ (xA g)) (i + n) | none => N 0)), μ) := by
  rw [jC_run (by decide)]
  show jR (d + 1) 104 0 [.ref g, .int k, .int (N n), .retAddr 0] [] μ = _
  simp only [b104_0, gI6, gR6, pI6, pR6, rv6, aI_eq, aB_eq, aR_eq, sI_eq, sB_eq, sR_eq, Option.bind_some, Option.bind_none, if_true, if_false, true_or, or_true, false_or, or_false, true_and, and_true, false_and, and_false, decide_eq_true_eq, decide_true, decide_false, eq_self, not_true_eq_false, not_false_eq_true, jfit0, N_lit, N_add, N_mul, NEG_eq, pl_none, pl_some, rf_some, rf_none, jun_ref, jun_null, ir_ref, ir_null, jr_rf, jun_rf, Option.toList_some, Option.toList_none, List.nil_append, List.cons_append, hs.1, x_placeOf hs hn]
  cases e : lfind k (rG μ (xA g)) with
  | none => simp only [aI_eq, aB_eq, aR_eq, sI_eq, sB_eq, sR_eq, Option.bind_some, Option.bind_none, if_true, if_false, true_or, or_true, false_or, or_false, true_and, and_true, false_and, and_false, decide_eq_true_eq, decide_true, decide_false, eq_self, not_true_eq_false, not_false_eq_true, jfit0, N_lit, N_add, N_mul, NEG_eq, pl_none, pl_some, rf_some, rf_none, jun_ref, jun_null, ir_ref, ir_null, jr_rf, jun_rf, Option.toList_some, Option.toList_none, List.nil_append, List.cons_append, b104_5, b104_22]
  | some i =>
    have hi : i < 8 := by
      have := (List.findIdx?_eq_some_iff_getElem.mp e).1
      rw [len_rG] at this
      have := hn.2
      omega
    simp only [gI6, gR6, pI6, pR6, rv6, aI_eq, aB_eq, aR_eq, sI_eq, sB_eq, sR_eq, Option.bind_some, Option.bind_none, if_true, if_false, true_or, or_true, false_or, or_false, true_and, and_true, false_and, and_false, decide_eq_true_eq, decide_true, decide_false, eq_self, not_true_eq_false, not_false_eq_true, jfit0, N_lit, N_add, N_mul, NEG_eq, pl_none, pl_some, rf_some, rf_none, jun_ref, jun_null, ir_ref, ir_null, jr_rf, jun_rf, Option.toList_some, Option.toList_none, List.nil_append, List.cons_append, b104_5, b104_22, N_NEG (show i < 2147483648 by omega), hs.1, x_keyAt hs hn (show i + n < 2147483648 by omega)]
end GRID
