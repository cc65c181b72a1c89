/-! A TEXT being built: StringBuilder -/
/-- a builder at a, its bytes at t, with room for cap -/
def BV (μ : jM) (a t cap : Nat) (s : List Nat) : Prop := (jk μ a = 1 ∧ jiv μ a 1 = N 0 ∧ jiv μ a 3 = N s.length ∧ jrv μ a 0 = some t) ∧ (jk μ t = 22 ∧ jl μ t = cap ∧ s.length ≤ cap ∧ cap ≤ 80) ∧ ∀ i c, s[i]? = some c → jiv μ t i = N c ∧ c < 128
section SIZE
variable {μ μ' : jM} {d t e m n w k0 : Nat} {x v f : Int32} {u1 u3 u4 : Value}
theorem ss_step {p i : Nat} (hx : x.toInt = -(m : Int)) (hp : p ≤ 1000000000) (hi : i < 10) : jR d 277 16 [.int x, .int (N k0), .int (-(N p)), .int (N i)] [] μ = if m < p then some (some (.int (N (i + k0))), μ) else jR d 277 16 [.int x, .int (N k0), .int (-(N (10 * p))), .int (N (i + 1))] [] μ := by
  have em : N 10 * -(N p) = -(N (10 * p)) := by rw [← N_mul, Int32.mul_neg]
  rw [b277_16]
  simp only [aI_eq, aB_eq, aR_eq, sI_eq, sB_eq, sR_eq, Option.bind_some, Option.bind_none, if_true, if_false, true_or, or_true, false_or, or_false, true_and, and_true, false_and, and_false, decide_eq_true_eq, decide_true, decide_false, eq_self, not_true_eq_false, not_false_eq_true, jfit0, N_lit, N_add, N_mul, NEG_eq, pl_none, pl_some, rf_some, rf_none, jun_ref, jun_null, ir_ref, ir_null, jr_rf, jun_rf, Option.toList_some, Option.toList_none, List.nil_append, List.cons_append, N_lt (show i < 2147483648 by omega) (show 10 < 2147483648 by decide), hi, lt_neg (show p ≤ 2147483648 by omega) hx, em]
theorem ss_loop (hx : x.toInt = -(m : Int)) (hm : m ≤ 2147483648) : jR d 277 16 [.int x, .int (N k0), .int (-(N 10)), .int (N 1)] [] μ = some (some (.int (N (dlen m + k0))), μ) := by
  unfold dlen
  rw [show jR d 277 16 [.int x, .int (N k0), .int (-(N 10)), .int (N 1)] [] μ = if m < 10 then some (some (.int (N (1 + k0))), μ) else jR d 277 16 [.int x, .int (N k0), .int (-(N 100)), .int (N 2)] [] μ from ss_step hx (by decide) (by decide)]
  by_cases h1 : m < 10
  · rw [if_pos h1, if_pos h1]
  rw [if_neg h1, if_neg h1]
  rw [show jR d 277 16 [.int x, .int (N k0), .int (-(N 100)), .int (N 2)] [] μ = if m < 100 then some (some (.int (N (2 + k0))), μ) else jR d 277 16 [.int x, .int (N k0), .int (-(N 1000)), .int (N 3)] [] μ from ss_step hx (by decide) (by decide)]
  by_cases h2 : m < 100
  · rw [if_pos h2, if_pos h2]
  rw [if_neg h2, if_neg h2]
  rw [show jR d 277 16 [.int x, .int (N k0), .int (-(N 1000)), .int (N 3)] [] μ = if m < 1000 then some (some (.int (N (3 + k0))), μ) else jR d 277 16 [.int x, .int (N k0), .int (-(N 10000)), .int (N 4)] [] μ from ss_step hx (by decide) (by decide)]
  by_cases h3 : m < 1000
  · rw [if_pos h3, if_pos h3]
  rw [if_neg h3, if_neg h3]
  rw [show jR d 277 16 [.int x, .int (N k0), .int (-(N 10000)), .int (N 4)] [] μ = if m < 10000 then some (some (.int (N (4 + k0))), μ) else jR d 277 16 [.int x, .int (N k0), .int (-(N 100000)), .int (N 5)] [] μ from ss_step hx (by decide) (by decide)]
  by_cases h4 : m < 10000
  · rw [if_pos h4, if_pos h4]
  rw [if_neg h4, if_neg h4]
  rw [show jR d 277 16 [.int x, .int (N k0), .int (-(N 100000)), .int (N 5)] [] μ = if m < 100000 then some (some (.int (N (5 + k0))), μ) else jR d 277 16 [.int x, .int (N k0), .int (-(N 1000000)), .int (N 6)] [] μ from ss_step hx (by decide) (by decide)]
  by_cases h5 : m < 100000
  · rw [if_pos h5, if_pos h5]
  rw [if_neg h5, if_neg h5]
  rw [show jR d 277 16 [.int x, .int (N k0), .int (-(N 1000000)), .int (N 6)] [] μ = if m < 1000000 then some (some (.int (N (6 + k0))), μ) else jR d 277 16 [.int x, .int (N k0), .int (-(N 10000000)), .int (N 7)] [] μ from ss_step hx (by decide) (by decide)]
  by_cases h6 : m < 1000000
  · rw [if_pos h6, if_pos h6]
  rw [if_neg h6, if_neg h6]
  rw [show jR d 277 16 [.int x, .int (N k0), .int (-(N 10000000)), .int (N 7)] [] μ = if m < 10000000 then some (some (.int (N (7 + k0))), μ) else jR d 277 16 [.int x, .int (N k0), .int (-(N 100000000)), .int (N 8)] [] μ from ss_step hx (by decide) (by decide)]
  by_cases h7 : m < 10000000
  · rw [if_pos h7, if_pos h7]
  rw [if_neg h7, if_neg h7]
  rw [show jR d 277 16 [.int x, .int (N k0), .int (-(N 100000000)), .int (N 8)] [] μ = if m < 100000000 then some (some (.int (N (8 + k0))), μ) else jR d 277 16 [.int x, .int (N k0), .int (-(N 1000000000)), .int (N 9)] [] μ from ss_step hx (by decide) (by decide)]
  by_cases h8 : m < 100000000
  · rw [if_pos h8, if_pos h8]
  rw [if_neg h8, if_neg h8]
  rw [show jR d 277 16 [.int x, .int (N k0), .int (-(N 1000000000)), .int (N 9)] [] μ = if m < 1000000000 then some (some (.int (N (9 + k0))), μ) else jR d 277 16 [.int x, .int (N k0), .int (-(N 10000000000)), .int (N 10)] [] μ from ss_step hx (by decide) (by decide)]
  by_cases h9 : m < 1000000000
  · rw [if_pos h9, if_pos h9]
  rw [if_neg h9, if_neg h9]
  rw [b277_16, if_neg]
  · simp only [N_lit, N_add]
  · rw [N_lit, N_lt (by decide) (by decide)]; decide
theorem abs_lt (v : Int32) : v.toInt.natAbs ≤ 2147483648 := by
  have h1 := Int32.le_toInt v
  have h2 := Int32.toInt_lt v
  omega
theorem neg_abs (h : v < N 0) : v.toInt = -(v.toInt.natAbs : Int) := by
  have h1 : v.toInt < 0 := Int32.lt_iff_toInt_lt.mp h
  omega
theorem pos_abs (h : ¬ v < N 0) : (-v).toInt = -(v.toInt.natAbs : Int) := by
  obtain ⟨a, ha, rfl⟩ := N_of h
  rw [N_neg_toInt (by omega), N_toInt ha]
  omega
theorem dec_len : (dec v).length = (if v < N 0 then 1 else 0) + dlen v.toInt.natAbs := by
  have h := abs_lt v
  unfold dec
  split
  · rw [List.length_cons, dgs_len (by omega)]; omega
  · rw [dgs_len (by omega)]; omega
theorem dlen_le (m : Nat) : dlen m ≤ 10 ∧ 1 ≤ dlen m := by
  unfold dlen
  repeat' split
  all_goals omega
theorem x_stringSize : jC d 277 [.int v] μ = some (some (.int (N (dec v).length)), μ) := by
  rw [jC_run (by decide)]
  show jR d 277 0 [.int v, .retAddr 0, .retAddr 0, .retAddr 0] [] μ = _
  rw [b277_0, dec_len]
  by_cases h : v < N 0
  · simp only [aI_eq, aB_eq, aR_eq, sI_eq, sB_eq, sR_eq, Option.bind_some, Option.bind_none, if_true, if_false, true_or, or_true, false_or, or_false, true_and, and_true, false_and, and_false, decide_eq_true_eq, decide_true, decide_false, eq_self, not_true_eq_false, not_false_eq_true, jfit0, N_lit, N_add, N_mul, NEG_eq, pl_none, pl_some, rf_some, rf_none, jun_ref, jun_null, ir_ref, ir_null, jr_rf, jun_rf, Option.toList_some, Option.toList_none, List.nil_append, List.cons_append, h, b277_11, show -(10 : Int32) = -(N 10) from rfl, ss_loop (neg_abs h) (abs_lt v)]
    rw [Nat.add_comm]
  · simp only [aI_eq, aB_eq, aR_eq, sI_eq, sB_eq, sR_eq, Option.bind_some, Option.bind_none, if_true, if_false, true_or, or_true, false_or, or_false, true_and, and_true, false_and, and_false, decide_eq_true_eq, decide_true, decide_false, eq_self, not_true_eq_false, not_false_eq_true, jfit0, N_lit, N_add, N_mul, NEG_eq, pl_none, pl_some, rf_some, rf_none, jun_ref, jun_null, ir_ref, ir_null, jr_rf, jun_rf, Option.toList_some, Option.toList_none, List.nil_append, List.cons_append, h, b277_11, show -(10 : Int32) = -(N 10) from rfl, ss_loop (pos_abs h) (abs_lt v)]
    rw [Nat.zero_add]
    rfl
theorem x_getChars (hd : KD μ) (hk : jk μ t = 22) (hl : jl μ t < 1000000) (he : e ≤ jl μ t) (hs : (dec v).length ≤ e) : ∃ μ' r, jC d 278 [.int v, .int (N e), .ref t] μ = some (some (.int r), μ') ∧ Fx (fun b => b = t) (fun _ _ => False) μ μ' ∧ (∀ j, j < e - (dec v).length → jiv μ' t j = jiv μ t j) ∧ ∀ i c, (dec v)[i]? = some c → jiv μ' t (e - (dec v).length + i) = N c := by
  rw [jC_run (by decide)]
  show ∃ μ' r, jR d 278 0 [.int v, .int (N e), .ref t, .retAddr 0, .retAddr 0, .retAddr 0, .retAddr 0] [] μ = _ ∧ _
  rw [b278_0 (h2 := ir_ref)]
  unfold dec at hs ⊢
  by_cases h : v < N 0
  · rw [if_pos h, List.length_cons] at hs
    obtain ⟨μ1, x', u3', u4', r1, r2, r3, r4⟩ := gc_loop (d := d) (t := t) (u1 := .int (N e)) (f := N 1) v.toInt.natAbs v e μ (.retAddr 0) (.retAddr 0) (abs_lt v) (neg_abs h) hd hk hl he (by omega)
    generalize hL : (dgs v.toInt.natAbs).length = L at *
    have s1 := sB_N (μ := μ1) (t := t) (i := e - L - 1) (c := 45) (by rw [r2.kk]; exact hk) (by rw [r2.ll]; omega) (by rw [r2.ll]; exact hl) (by decide)
    refine ⟨jsetI μ1 t (e - L - 1) (N 45), N (e - L - 1), ?_, by refine Fx.setI r2 ?_; show t = t; rfl, fun j hj => ?_, fun i c hc => ?_⟩
    · simp only [N_lit, h, if_true]
      rw [b278_12 (h2 := ir_ref)]
      simp only [Option.bind_some, Option.bind_none, if_true, if_false, true_or, or_true, false_or, or_false, true_and, and_true, false_and, and_false, decide_eq_true_eq, decide_true, decide_false, eq_self, not_true_eq_false, not_false_eq_true, jfit0, N_lit, N_add, N_mul, NEG_eq, pl_none, pl_some, rf_some, rf_none, jun_ref, jun_null, ir_ref, ir_null, jr_rf, jun_rf, Option.toList_some, Option.toList_none, List.nil_append, List.cons_append, n10, r1]
      rw [b278_104 (h2 := ir_ref)]
      simp only [Option.bind_some, Option.bind_none, if_true, if_false, true_or, or_true, false_or, or_false, true_and, and_true, false_and, and_false, decide_eq_true_eq, decide_true, decide_false, eq_self, not_true_eq_false, not_false_eq_true, jfit0, N_lit, N_add, N_mul, NEG_eq, pl_none, pl_some, rf_some, rf_none, jun_ref, jun_null, ir_ref, ir_null, jr_rf, jun_rf, Option.toList_some, Option.toList_none, List.nil_append, List.cons_append, n10, N_pred (show 1 ≤ e - L by omega), s1, b278_118]
    · rw [if_pos h, List.length_cons, hL] at hj
      simp only [ty_setI, ty_setR, ty_rowI, ty_rowR, jk_setI, jk_setR, jk_rowI, jk_rowR, jl_setI, jl_setR, jl_rowI, jl_rowR, sz_setI, sz_setR, sz_rowI, sz_rowR, ext_setI, ext_setR, iv_setI, iv_setR, iv_rowI, iv_rowR, rv_setI, rv_setR, rv_rowI, rv_rowR, iv_setIn, iv_rowIn, rv_setRn, rv_rowRn, iv_rowIe, rv_rowRe, show ¬ j = e - L - 1 by omega, and_false, if_false]
      exact r3 j (by omega)
    · rw [if_pos h] at hc ⊢
      rw [List.length_cons, hL]
      cases i with
      | zero =>
        have hc : some 45 = some c := hc
        cases hc
        simp only [ty_setI, ty_setR, ty_rowI, ty_rowR, jk_setI, jk_setR, jk_rowI, jk_rowR, jl_setI, jl_setR, jl_rowI, jl_rowR, sz_setI, sz_setR, sz_rowI, sz_rowR, ext_setI, ext_setR, iv_setI, iv_setR, iv_rowI, iv_rowR, rv_setI, rv_setR, rv_rowI, rv_rowR, iv_setIn, iv_rowIn, rv_setRn, rv_rowRn, iv_rowIe, rv_rowRe, show e - (L + 1) + 0 = e - L - 1 by omega, and_self, if_true]
      | succ i =>
        have hc : (dgs v.toInt.natAbs)[i]? = some c := hc
        have := r4 i c hc
        simp only [ty_setI, ty_setR, ty_rowI, ty_rowR, jk_setI, jk_setR, jk_rowI, jk_rowR, jl_setI, jl_setR, jl_rowI, jl_rowR, sz_setI, sz_setR, sz_rowI, sz_rowR, ext_setI, ext_setR, iv_setI, iv_setR, iv_rowI, iv_rowR, rv_setI, rv_setR, rv_rowI, rv_rowR, iv_setIn, iv_rowIn, rv_setRn, rv_rowRn, iv_rowIe, rv_rowRe, show ¬ e - (L + 1) + (i + 1) = e - L - 1 by omega, and_false, if_false]
        rw [show e - (L + 1) + (i + 1) = e - L + i by omega]; exact this
  · rw [if_neg h] at hs
    obtain ⟨μ1, x', u3', u4', r1, r2, r3, r4⟩ := gc_loop (d := d) (t := t) (u1 := .int (N e)) (f := N 0) v.toInt.natAbs (-v) e μ (.retAddr 0) (.retAddr 0) (abs_lt v) (pos_abs h) hd hk hl he hs
    refine ⟨μ1, N (e - (dgs v.toInt.natAbs).length), ?_, r2, fun j hj => ?_, fun i c hc => ?_⟩
    · simp only [N_lit, h, if_false]
      rw [b278_12 (h2 := ir_ref)]
      simp only [Option.bind_some, Option.bind_none, if_true, if_false, true_or, or_true, false_or, or_false, true_and, and_true, false_and, and_false, decide_eq_true_eq, decide_true, decide_false, eq_self, not_true_eq_false, not_false_eq_true, jfit0, N_lit, N_add, N_mul, NEG_eq, pl_none, pl_some, rf_some, rf_none, jun_ref, jun_null, ir_ref, ir_null, jr_rf, jun_rf, Option.toList_some, Option.toList_none, List.nil_append, List.cons_append, r1]
      rw [b278_104 (h2 := ir_ref)]
      simp only [Option.bind_some, Option.bind_none, if_true, if_false, true_or, or_true, false_or, or_false, true_and, and_true, false_and, and_false, decide_eq_true_eq, decide_true, decide_false, eq_self, not_true_eq_false, not_false_eq_true, jfit0, N_lit, N_add, N_mul, NEG_eq, pl_none, pl_some, rf_some, rf_none, jun_ref, jun_null, ir_ref, ir_null, jr_rf, jun_rf, Option.toList_some, Option.toList_none, List.nil_append, List.cons_append, b278_118]
    · rw [if_neg h] at hj
      exact r3 j (Or.inl hj)
    · rw [if_neg h] at hc ⊢
      exact r4 i c hc
end SIZE
section BUILD
variable {μ μ' : jM} {a t cap d m n w : Nat} {s u : List Nat} {v : Int32}
theorem BV.lt (h : BV μ a t cap s) (hj : JW μ) : a < jsz μ ∧ t < jsz μ := ⟨hj.lt (ne99 h.1.1 (by decide)), hj.lt (ne99 h.2.1.1 (by decide))⟩
theorem BV.ne (h : BV μ a t cap s) : a ≠ t := fun e => by
  have h1 := h.1.1
  rw [e, h.2.1.1] at h1
  exact absurd h1 (by decide)
/-- written on -/
theorem BV.app (h : BV μ a t cap s) (hu : s.length + u.length ≤ cap) (k : jk μ' = jk μ) (l : jl μ' = jl μ) (h1 : jiv μ' a 1 = N 0) (h3 : jiv μ' a 3 = N (s.length + u.length)) (hr : jrv μ' a 0 = jrv μ a 0) (ho : ∀ j, j < s.length → jiv μ' t j = jiv μ t j) (hn : ∀ i c, u[i]? = some c → jiv μ' t (s.length + i) = N c ∧ c < 128) : BV μ' a t cap (s ++ u) := by
  obtain ⟨⟨a1, a2, a3, a4⟩, ⟨b1, b2, b3, b4⟩, c1⟩ := h
  refine ⟨⟨by rw [k]; exact a1, h1, by rw [List.length_append]; exact h3, by rw [hr]; exact a4⟩, ⟨by rw [k]; exact b1, by rw [l]; exact b2, by rw [List.length_append]; exact hu, b4⟩, fun i c hc => ?_⟩
  by_cases hi : i < s.length
  · rw [List.getElem?_append_left hi] at hc
    rw [ho i hi]; exact c1 i c hc
  · rw [List.getElem?_append_right (by omega)] at hc
    have := hn _ c hc
    rw [show s.length + (i - s.length) = i by omega] at this
    exact this
theorem sb_latin (hx : jX μ) (h : BV μ a t cap s) : jC d 269 [.ref a] μ = some (some (.int (N 1)), μ) := by
  rw [jC_run (by decide)]
  show jR d 269 0 [.ref a] [] μ = _
  rw [b269_0 (hx := hx), if_neg (by decide)]
  simp only [gI1, gR1, pI1, pR1, rv1, aI_eq, aB_eq, aR_eq, sI_eq, sB_eq, sR_eq, Option.bind_some, Option.bind_none, if_true, if_false, true_or, or_true, false_or, or_false, true_and, and_true, false_and, and_false, decide_eq_true_eq, decide_true, decide_false, eq_self, not_true_eq_false, not_false_eq_true, jfit0, N_lit, N_add, N_mul, NEG_eq, pl_none, pl_some, rf_some, rf_none, jun_ref, jun_null, ir_ref, ir_null, jr_rf, jun_rf, Option.toList_some, Option.toList_none, List.nil_append, List.cons_append, n10, h.1.1, h.1.2.1, b269_18, show jrf 4 (N 1) = true from rfl]
theorem N_subI {x y : Nat} (hx : x < 1000000000) (hy : y < 1000000000) : (N x - N y).toInt = (x : Int) - y := by
  rw [Int32.toInt_sub, N_toInt (by omega), N_toInt (by omega), Int.bmod_eq_of_le (by omega) (by omega)]
theorem pos_sub {x y : Nat} (hx : x < 1000000000) (hy : y < 1000000000) : (N 0 < N x - N y) = (y < x) := by
  rw [Int32.lt_iff_toInt_lt, N_subI hx hy, N_toInt (by decide)]
  exact propext ⟨fun h => by omega, fun h => by omega⟩
def gn (cap m : Nat) : Nat := if m ≤ cap then 0 else 1
/-- room grows, twice as much at least -/
def gr (cap m cap' : Nat) : Prop := cap ≤ cap' ∧ (m ≤ cap ∨ 2 * cap + 2 ≤ cap')
/-- room for m -/
theorem sb_ensure (hj : JW μ) (h : BV μ a t cap s) (hm : m ≤ 40) : ∃ μ' t' cap', jC (d + 3) 267 [.ref a, .int (N m)] μ = some (none, μ') ∧ BV μ' a t' cap' s ∧ m ≤ cap' ∧ gr cap m cap' ∧ Fa (fun _ => False) (fun b _ => b = a) (gn cap m) (80 * gn cap m) μ μ' ∧ (t' = t ∨ t' = jsz μ) := by
  obtain ⟨⟨a1, a2, a3, a4⟩, ⟨b1, b2, b3, b4⟩, c1⟩ := h
  have hlt := BV.lt ⟨⟨a1, a2, a3, a4⟩, ⟨b1, b2, b3, b4⟩, c1⟩ hj
  have sl : s.length < 1000000000 := by omega
  rw [jC_run (by decide)]
  show ∃ μ' t' cap', jR (d + 3) 267 0 [.ref a, .int (N m), .retAddr 0] [] μ = _ ∧ _
  simp only [b267_0, gI1, gR1, pI1, pR1, rv1, aI_eq, aB_eq, aR_eq, sI_eq, sB_eq, sR_eq, Option.bind_some, Option.bind_none, if_true, if_false, true_or, or_true, false_or, or_false, true_and, and_true, false_and, and_false, decide_eq_true_eq, decide_true, decide_false, eq_self, not_true_eq_false, not_false_eq_true, jfit0, N_lit, N_add, N_mul, NEG_eq, pl_none, pl_some, rf_some, rf_none, jun_ref, jun_null, ir_ref, ir_null, jr_rf, jun_rf, Option.toList_some, Option.toList_none, List.nil_append, List.cons_append, a1, a4, a2, alen_of b1 (by decide), b2, shr0, pos_sub (show m < 1000000000 by omega) (show cap < 1000000000 by omega), rv1]
  unfold gn
  by_cases e : m ≤ cap
  · refine ⟨μ, t, cap, ?_, ⟨⟨a1, a2, a3, a4⟩, ⟨b1, b2, b3, b4⟩, c1⟩, e, ⟨Nat.le_refl _, Or.inl e⟩, Fa.refl hj, Or.inl rfl⟩
    rw [if_neg (by omega), b267_38]
  · rw [if_neg e, if_pos (show cap < m by omega)]
    have e310 : jC (d + 1) 310 [.int (N cap), .int (N (m - cap)), .int (N (cap + 2))] μ = some (some (.int (N (max m (2 * cap + 2)))), μ) := by
      rw [jC_run (by decide)]
      show jR (d + 1) 310 0 [.int (N cap), .int (N (m - cap)), .int (N (cap + 2)), .retAddr 0] [] μ = _
      have h1 : N 0 < N (max (m - cap) (cap + 2) + cap) := by rw [N_lt (by decide) (by omega)]; omega
      have h2 : ¬ N 2147483639 < N (max (m - cap) (cap + 2) + cap) := by rw [N_lt (by decide) (by omega)]; omega
      have h3 : cap + max (m - cap) (cap + 2) = max m (2 * cap + 2) := by omega
      simp only [b310_0, b310_6, aI_eq, aB_eq, aR_eq, sI_eq, sB_eq, sR_eq, Option.bind_some, Option.bind_none, if_true, if_false, true_or, or_true, false_or, or_false, true_and, and_true, false_and, and_false, decide_eq_true_eq, decide_true, decide_false, eq_self, not_true_eq_false, not_false_eq_true, jfit0, N_lit, N_add, N_mul, NEG_eq, pl_none, pl_some, rf_some, rf_none, jun_ref, jun_null, ir_ref, ir_null, jr_rf, jun_rf, Option.toList_some, Option.toList_none, List.nil_append, List.cons_append, math_max, imax_N (show m - cap < 2147483648 by omega) (show cap + 2 < 2147483648 by omega), N_lt (show 0 < 2147483648 by decide) (show cap + max (m - cap) (cap + 2) < 2147483648 by omega), N_lt (show 2147483639 < 2147483648 by decide) (show cap + max (m - cap) (cap + 2) < 2147483648 by omega), show 0 < cap + max (m - cap) (cap + 2) by omega, show ¬ 2147483639 < cap + max (m - cap) (cap + 2) by omega]
      rw [h3]
    have e268 : jC (d + 2) 268 [.ref a, .int (N m)] μ = some (some (.int (N (max m (2 * cap + 2)))), μ) := by
      rw [jC_run (by decide)]
      show jR (d + 2) 268 0 [.ref a, .int (N m), .retAddr 0, .retAddr 0, .retAddr 0, .retAddr 0] [] μ = _
      have ne : (N (max m (2 * cap + 2)) = N 2147483647) = False := N_ne (by omega) (by decide) (by omega)
      simp only [b268_0, b268_32, gI1, gR1, pI1, pR1, rv1, aI_eq, aB_eq, aR_eq, sI_eq, sB_eq, sR_eq, Option.bind_some, Option.bind_none, if_true, if_false, true_or, or_true, false_or, or_false, true_and, and_true, false_and, and_false, decide_eq_true_eq, decide_true, decide_false, eq_self, not_true_eq_false, not_false_eq_true, jfit0, N_lit, N_add, N_mul, NEG_eq, pl_none, pl_some, rf_some, rf_none, jun_ref, jun_null, ir_ref, ir_null, jr_rf, jun_rf, Option.toList_some, Option.toList_none, List.nil_append, List.cons_append, a1, a4, a2, alen_of b1 (by decide), b2, shl0, shr0, N_sub (show cap ≤ m by omega), e310, ne]
    obtain ⟨μ1, q1, q2, q3, q4, q5, q6⟩ := x_copyOfB (d := d + 1) (n0 := max m (2 * cap + 2)) hj b1 (by omega) (by omega)
    have k1 : jk μ1 a = 1 := by rw [q2.kk hlt.1]; exact a1
    have hne : ¬ jsz μ = a := by omega
    refine ⟨jsetR μ1 a 0 (some (jsz μ)), jsz μ, max m (2 * cap + 2), ?_, ⟨⟨k1, ?_, ?_, ?_⟩, ⟨q4, q5, by omega, by omega⟩, fun i c hc => ?_⟩, by omega, ⟨by omega, Or.inr (by omega)⟩, ?_, Or.inr rfl⟩
    · simp only [e268, aI_eq, aB_eq, aR_eq, sI_eq, sB_eq, sR_eq, Option.bind_some, Option.bind_none, if_true, if_false, true_or, or_true, false_or, or_false, true_and, and_true, false_and, and_false, decide_eq_true_eq, decide_true, decide_false, eq_self, not_true_eq_false, not_false_eq_true, jfit0, N_lit, N_add, N_mul, NEG_eq, pl_none, pl_some, rf_some, rf_none, jun_ref, jun_null, ir_ref, ir_null, jr_rf, jun_rf, Option.toList_some, Option.toList_none, List.nil_append, List.cons_append, b267_27, gI1, gR1, pI1, pR1, rv1, a1, a2, shl0, q1, b267_35, k1, b267_38]
    · show jiv μ1 a 1 = N 0
      rw [q2.iv hlt.1 id]; exact a2
    · show jiv μ1 a 3 = N s.length
      rw [q2.iv hlt.1 id]; exact a3
    · simp only [ty_setI, ty_setR, ty_rowI, ty_rowR, jk_setI, jk_setR, jk_rowI, jk_rowR, jl_setI, jl_setR, jl_rowI, jl_rowR, sz_setI, sz_setR, sz_rowI, sz_rowR, ext_setI, ext_setR, iv_setI, iv_setR, iv_rowI, iv_rowR, rv_setI, rv_setR, rv_rowI, rv_rowR, iv_setIn, iv_rowIn, rv_setRn, rv_rowRn, iv_rowIe, rv_rowRe, and_self, if_true]
    · have hi : i < s.length := (List.getElem?_eq_some_iff.mp hc).1
      show jiv μ1 (jsz μ) i = N c ∧ c < 128
      rw [q6 i (by omega) (by omega)]
      exact c1 i c hc
    · have F1 : Fx (fun _ => False) (fun b _ => b = a) μ1 (jsetR μ1 a 0 (some (jsz μ))) := by refine Fx.setR Fx.refl ?_; show a = a; rfl
      have F2 : Fa (fun _ => False) (fun b _ => b = a) (1 + 0) (max m (2 * cap + 2) + 0) μ (jsetR μ1 a 0 (some (jsz μ))) := (q2.mono (S' := fun _ => False) (T' := fun b _ => b = a) (fun _ _ g => g) (fun _ _ _ g => g.elim) (Nat.le_refl _) (Nat.le_refl _)).trans (F1.fa q2.jw) (fun _ _ g => g) (fun _ _ _ g => g)
      exact F2.mono (fun _ _ g => g) (fun _ _ _ g => g) (by omega) (by omega)
end BUILD
