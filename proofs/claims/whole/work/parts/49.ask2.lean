/-! ASKING: a range, whole -/
section RNG2
variable {μ μ' μ'' : jM} {q D g h d f b n k wd i j : Nat} {G : List (RW (List Tk))} {S : List Nat} {v x y : Int32} {e0 : Ex} {r : VT} {acc : Option Int32}
theorem imin_N {x y : Nat} (hx : x < 2147483648) (hy : y < 2147483648) : imin (N x) (N y) = N (min x y) := by
  unfold imin
  simp only [N_lt hy hx]
  split
  · rw [Nat.min_eq_right (by omega)]
  · rw [Nat.min_eq_left (by omega)]
theorem imax_N {x y : Nat} (hx : x < 2147483648) (hy : y < 2147483648) : imax (N x) (N y) = N (max x y) := by
  unfold imax
  simp only [N_lt hx hy]
  split
  · rw [Nat.max_eq_right (by omega)]
  · rw [Nat.max_eq_left (by omega)]
theorem rng_rows {dp : Nat} {q1 q2 : Nat × Nat} {u1 u2 u4 u5 : Value} {i6 i7 : Int32} (hwd : wd < 3) (ha : AskOK G q D g k) (hd : S.length = dp + 1) (hS : S.Nodup) (hS2 : ∀ s, s ∈ S → s < 24) (hk : S.length + k = 24) (hn : h ≤ 39 * S.length) (h1 : q1.1 < G.length) (h2 : q2.1 < G.length) (hG8 : G.length ≤ 8) (hc1 : q1.2 < 3) (hc2 : q2.2 < 3) (h6 : i6 = N q1.1) (h7 : i7 = N q2.1) : ∀ (m p : Nat) (acc : Option Int32) (μ : jM) (u13 : Value), p + m = max q1.1 q2.1 + 1 → (m = 0 → acc ≠ none) → AX μ q D g G → jiv μ q 1 = N 0 → jiv μ q 5 = N h → AI G μ q S → (∀ s, s ∈ S → Nd G (s / 3, s % 3) (fun n => rfd wd (evC G n) ((List.range' p m).flatMap (rrow q1 q2)) acc)) →
    ∃ μ' v, jR (d + (4 * k + 5) + 1) 66 156 [.ref q, u1, u2, .int (N dp), u4, u5, .int i6, .int i7, .int (N (min q1.2 q2.2)), .int (N (max q1.2 q2.2)), .int (wT wd), .int (fo wd acc), .int (N p), u13] [] μ = some (some (.int v), μ') ∧ PA G q S h (tfd G wd ((List.range' p m).flatMap (rrow q1 q2)) acc) μ μ' ∧ ((tfd G wd ((List.range' p m).flatMap (rrow q1 q2)) acc).1 = N 0 → v = (tfd G wd ((List.range' p m).flatMap (rrow q1 q2)) acc).2) := by
  have em : imax i6 i7 = N (max q1.1 q2.1) := by rw [h6, h7, imax_N (by omega) (by omega)]
  intro m
  induction m with
  | zero =>
    intro p acc μ u13 hp hacc hx hw hh hi nd
    have ea : fo wd acc = acc.getD (N 0) := by
      cases acc with
      | none => exact absurd rfl (hacc rfl)
      | some x => rfl
    refine ⟨μ, fo wd acc, ?_, PA.refl hw hh hi, fun _ => ea⟩
    simp only [b66_156, math_max, em, Option.bind_some, Option.toList_some, List.cons_append, List.nil_append, b66_165, N_lt (show max q1.1 q2.1 < 2147483648 by omega) (show p < 2147483648 by omega), show max q1.1 q2.1 < p by omega, if_true]
  | succ m ih =>
    intro p acc μ u13 hp _ hx hw hh hi nd
    have e1 : (max q1.1 q2.1 < p) = False := eq_false (by omega)
    rw [List.range'_succ, List.flatMap_cons] at nd ⊢
    have hpG : p < G.length := by omega
    obtain ⟨μ1, x1, c1, r1, r2⟩ := rng_row (d := d) (u1 := u1) (u2 := u2) (u4 := u4) (u5 := u5) (i6 := i6) (i7 := i7) (lf := N (min q1.2 q2.2)) (rt := max q1.2 q2.2) hwd ha hd hS hS2 hk hn hpG hG8 (by omega) ((List.range' (p + 1) m).flatMap (rrow q1 q2)) (max q1.2 q2.2 + 1 - min q1.2 q2.2) (min q1.2 q2.2) acc μ (by omega) hx hw hh hi nd
    have hd1 : jR (d + (4 * k + 5) + 1) 66 156 [.ref q, u1, u2, .int (N dp), u4, u5, .int i6, .int i7, .int (N (min q1.2 q2.2)), .int (N (max q1.2 q2.2)), .int (wT wd), .int (fo wd acc), .int (N p), u13] [] μ = jR (d + (4 * k + 5) + 1) 66 156 [.ref q, u1, u2, .int (N dp), u4, u5, .int i6, .int i7, .int (N (min q1.2 q2.2)), .int (N (max q1.2 q2.2)), .int (wT wd), .int x1, .int (N (p + 1)), .int c1] [] μ1 := by
      simp only [b66_156, math_max, em, Option.bind_some, Option.toList_some, List.cons_append, List.nil_append, b66_165, N_lt (show max q1.1 q2.1 < 2147483648 by omega) (show p < 2147483648 by omega), e1, if_false, r1, b66_244, N_lit, N_add]
    have hx1 : AX μ1 q D g G := by
      rcases r2 with ⟨-, -, -, a3, -⟩ | ⟨a1, -⟩
      · exact hx.fr a3.1
      · exact hx.fr a1.1
    rcases r2 with ⟨acc', a1, a2, a3, a4, a5⟩ | ⟨a1, a2⟩
    · rw [show tfd G wd (rrow q1 q2 p ++ (List.range' (p + 1) m).flatMap (rrow q1 q2)) acc = tfd G wd ((List.range' (p + 1) m).flatMap (rrow q1 q2)) acc' from a4]
      obtain ⟨μ2, v, b1, b2, b3⟩ := ih (p + 1) acc' μ1 (.int c1) (by omega) (fun _ => a2 (Or.inr (by omega))) hx1 a3.2.1 a3.2.2.1 (a3.2.2.2.2 rfl) a5
      refine ⟨μ2, v, ?_, a3.trans b2, b3⟩
      rw [hd1, a1]; exact b1
    · refine ⟨μ1, x1, ?_, a1, fun g => absurd g a2⟩
      rw [hd1]
      exact rng_drain (p1 := q1.1) (p2 := q2.1) (by omega) (by omega) h6 h7 hx1.1 (by rw [a1.2.1]; exact a2) m (p + 1) _ (by omega)
/-- many: nothing is asked -/
theorem many_row {dp p rt : Nat} {u1 u2 u4 u5 : Value} {i6 i7 lf : Int32} (hp : p < 1000) (hrt : rt < 3) (hx : AX μ q D g G) (hw : jiv μ q 1 = N 0) : ∀ (n c z : Nat), c + n = rt + 1 → ∃ c', jR (d + 2) 66 172 [.ref q, u1, u2, .int (N dp), u4, u5, .int i6, .int i7, .int lf, .int (N rt), .int (N 110), .int (N z), .int (N p), .int (N c)] [] μ = jR (d + 2) 66 244 [.ref q, u1, u2, .int (N dp), u4, u5, .int i6, .int i7, .int lf, .int (N rt), .int (N 110), .int (N (z + ((List.range' c n).map fun c => (p, c)).countP (isFull G))), .int (N p), .int c'] [] μ := by
  intro n
  induction n with
  | zero =>
    intro c z hc
    refine ⟨N c, ?_⟩
    rw [b66_172, if_pos]
    · rfl
    · rw [N_lt (by omega) (by omega)]; omega
  | succ n ih =>
    intro c z hc
    have hc3 : c < 3 := by omega
    have q1 : (N rt < N c) = False := by rw [N_lt (by omega) (by omega)]; exact eq_false (by omega)
    have tk : jC (d + 1) 101 [.ref g, .int (N p), .int (N c)] μ = some (some (.int (cO [] G (some p) c).1), μ) := by
      have t := d_kindAt (d := d) (p := some p) hx.2.2.1 (one_small hp) hc3
      rw [hx.2.2.2.1] at t
      exact t
    rw [List.range'_succ, List.map_cons, List.countP_cons]
    have step : ∀ z', N z' = N z + (if (cO [] G (some p) c).1 = N 0 then N 0 else N 1) → jR (d + 2) 66 172 [.ref q, u1, u2, .int (N dp), u4, u5, .int i6, .int i7, .int lf, .int (N rt), .int (N 110), .int (N z), .int (N p), .int (N c)] [] μ = jR (d + 2) 66 172 [.ref q, u1, u2, .int (N dp), u4, u5, .int i6, .int i7, .int lf, .int (N rt), .int (N 110), .int (N z'), .int (N p), .int (N (c + 1))] [] μ := by
      intro z' hz'
      rw [b66_172, hz']
      simp only [q1, gI2, gR2, pI2, pR2, rv2, gI6, gR6, pI6, pR6, rv6, aI_eq, aB_eq, aR_eq, sI_eq, sB_eq, sR_eq, Option.bind_some, Option.bind_none, if_true, if_false, true_or, or_true, false_or, or_false, true_and, and_true, false_and, and_false, decide_eq_true_eq, decide_true, decide_false, eq_self, not_true_eq_false, not_false_eq_true, jfit0, N_lit, N_add, N_mul, NEG_eq, pl_none, pl_some, rf_some, rf_none, jun_ref, jun_null, ir_ref, ir_null, jr_rf, jun_rf, Option.toList_some, Option.toList_none, List.nil_append, List.cons_append, hx.1.1.1, hw, hx.2.1, hx.2.2.1.2.1.1, tk, b66_206, b66_214, b66_236]
      split <;> rw [N_add]
    by_cases e : (cO [] G (some p) c).1 = N 0
    · have ef : isFull G (p, c) = false := by unfold isFull; simp only [e, beq_self_eq_true, Bool.not_true]
      obtain ⟨c', h1⟩ := ih (c + 1) z (by omega)
      refine ⟨c', ?_⟩
      rw [step z (by rw [if_pos e, N_add]; rfl), h1, if_neg (by rw [ef]; decide)]
      simp only [Nat.add_zero]
    · have ef : isFull G (p, c) = true := by unfold isFull; simp only [beq_eq_false_iff_ne.mpr e, Bool.not_false]
      obtain ⟨c', h1⟩ := ih (c + 1) (z + 1) (by omega)
      refine ⟨c', ?_⟩
      rw [step (z + 1) (by rw [if_neg e, N_add]), h1, if_pos ef]
      simp only [Nat.add_assoc, Nat.add_comm 1]
theorem many_rows {dp : Nat} {q1 q2 : Nat × Nat} {u1 u2 u4 u5 : Value} {i6 i7 : Int32} (h1 : q1.1 < 8) (h2 : q2.1 < 8) (hc1 : q1.2 < 3) (hc2 : q2.2 < 3) (h6 : i6 = N q1.1) (h7 : i7 = N q2.1) (hx : AX μ q D g G) (hw : jiv μ q 1 = N 0) : ∀ (m p z : Nat) (u13 : Value), p + m = max q1.1 q2.1 + 1 → jR (d + 2) 66 156 [.ref q, u1, u2, .int (N dp), u4, u5, .int i6, .int i7, .int (N (min q1.2 q2.2)), .int (N (max q1.2 q2.2)), .int (N 110), .int (N z), .int (N p), u13] [] μ = some (some (.int (N (z + ((List.range' p m).flatMap (rrow q1 q2)).countP (isFull G)))), μ) := by
  have em : imax i6 i7 = N (max q1.1 q2.1) := by rw [h6, h7, imax_N (by omega) (by omega)]
  intro m
  induction m with
  | zero =>
    intro p z u13 hp
    simp only [b66_156, math_max, em, Option.bind_some, Option.toList_some, List.cons_append, List.nil_append, b66_165, N_lt (show max q1.1 q2.1 < 2147483648 by omega) (show p < 2147483648 by omega), show max q1.1 q2.1 < p by omega, if_true]
    rfl
  | succ m ih =>
    intro p z u13 hp
    have e1 : (max q1.1 q2.1 < p) = False := eq_false (by omega)
    obtain ⟨c', r1⟩ := many_row (d := d) (dp := dp) (u1 := u1) (u2 := u2) (u4 := u4) (u5 := u5) (i6 := i6) (i7 := i7) (lf := N (min q1.2 q2.2)) (rt := max q1.2 q2.2) (p := p) (by omega) (by omega) hx hw (max q1.2 q2.2 + 1 - min q1.2 q2.2) (min q1.2 q2.2) z (by omega)
    rw [List.range'_succ, List.flatMap_cons, List.countP_append, b66_156]
    simp only [math_max, em, Option.bind_some, Option.toList_some, List.cons_append, List.nil_append, b66_165, N_lt (show max q1.1 q2.1 < 2147483648 by omega) (show p < 2147483648 by omega), e1, if_false, r1, b66_244, N_lit, N_add]
    rw [ih (p + 1) _ _ (by omega)]
    unfold rrow
    simp only [Nat.add_assoc]
theorem x_askRange {dp kk : Nat} {A B : List Tk} (ha : AskOK G q D g k) (hz : KZ G) (hc : AC1 μ q D g G f e0) (ht : tks e0 = A ++ (wT (kk / 1000000), N 0, N 0) :: (N 40, N 0, N 0) :: rT (kk / 1000 % 1000) :: (N 58, N 0, N 0) :: rT (kk % 1000) :: (N 41, N 0, N 0) :: B) (hA : A.length = b) (hwd : kk / 1000000 < 4) (hr1 : rK (kk / 1000 % 1000)) (hr2 : rK (kk % 1000)) (hd : S.length = dp + 1) (hS : S.Nodup) (hS2 : ∀ s, s ∈ S → s < 24) (hk : S.length + k = 24) (hw : jiv μ q 1 = N 0) (hh : jiv μ q 5 = N h) (hn : h ≤ 39 * S.length) (hi : AI G μ q S) (nd : ∀ s, s ∈ S → Nd G (s / 3, s % 3) (fun n => evR G (evC G n) kk)) : ∃ μ' v, jC (d + (4 * k + 5) + 1) 66 [.ref q, .ref f, .int (N b), .int (N dp)] μ = some (some (.int v), μ') ∧ PA G q S h (tR G kk) μ μ' ∧ ((tR G kk).1 = N 0 → v = (tR G kk).2) := by
  obtain ⟨hx, hf, hT, hO⟩ := hc
  obtain ⟨t1, t2, t3, t4, t5⟩ := tk_at hf (hT.trans ht) hA
  have ht2 : tks e0 = (A ++ [(wT (kk / 1000000), N 0, N 0), (N 40, N 0, N 0)]) ++ rT (kk / 1000 % 1000) :: ((N 58, N 0, N 0) :: rT (kk % 1000) :: (N 41, N 0, N 0) :: B) := by rw [ht]; simp
  have ht3 : tks e0 = (A ++ [(wT (kk / 1000000), N 0, N 0), (N 40, N 0, N 0), rT (kk / 1000 % 1000), (N 58, N 0, N 0)]) ++ rT (kk % 1000) :: ((N 41, N 0, N 0) :: B) := by rw [ht]; simp
  obtain ⟨a1, a2, a3, a4, a5⟩ := tk_at (b := b + 2) hf (hT.trans ht2) (by rw [List.length_append, hA]; rfl)
  obtain ⟨b1, b2, b3, b4, b5⟩ := tk_at (b := b + 4) hf (hT.trans ht3) (by rw [List.length_append, hA]; rfl)
  have a4 : jiv μ (fa μ f 1) (b + 2) = N (kk / 1000 % 1000 / 2 % 4) := a4
  have a5 : jiv μ (fa μ f 2) (b + 2) = N (kk / 1000 % 1000 / 8) := a5
  have b4 : jiv μ (fa μ f 1) (b + 4) = N (kk % 1000 / 2 % 4) := b4
  have b5 : jiv μ (fa μ f 2) (b + 4) = N (kk % 1000 / 8) := b5
  have bb : b < 2147483648 := by omega
  have bb2 : b + 2 < 2147483648 := by omega
  have bb4 : b + 4 < 2147483648 := by omega
  have lb : jl μ (fa μ f 0) < 2147483648 := by have := hf.2.2.2.2.2.1; omega
  have hq := hx.1
  have t6 : ∀ x : Int32, jC (d + (4 * k + 5)) 92 [.ref g, .int x] μ = some (some (.int (pl (lfind x G))), μ) := fun x => by
    have t := d_placeOf (d := d + (4 * k + 5)) hx.2.2.1 x
    rw [hx.2.2.2.1] at t
    exact t
  have hlt : ∀ x j, lfind x G = some j → j < G.length := fun x j hj => lfind_lt hj
  have hG8 : G.length ≤ 8 := by rw [← hx.2.2.2.1, len_dG]; exact hx.2.2.1.2.2.1.2
  have hrc1 := refC_eq (i := kk / 1000 % 1000) hz
  have hrc2 := refC_eq (i := kk % 1000) hz
  have hc1 := hr1.2.1
  have hc2 := hr2.2.1
  have lost : ∀ {u0 u1 u2 u3 u4 u5 u6 u7 u8 u9 u10 u11 u12 : Value}, ∃ μ', jR (d + (4 * k + 5) + 1) 66 66 [.ref q, u0, u1, u2, u3, u4, u5, u6, u7, u8, u9, u10, u11, u12] [] μ = some (some (.int (N 0)), μ') ∧ PA G q S h (LO, N 0) μ μ' := by
    intro u0 u1 u2 u3 u4 u5 u6 u7 u8 u9 u10 u11 u12
    refine ⟨jsetI μ q 1 LO, ?_, AF.setI AF.refl (by omega), ?_, ?_, fun j hj => ?_, fun g => absurd g lo_ne⟩
    · simp only [b66_66, gI2, gR2, pI2, pR2, rv2, aI_eq, aB_eq, aR_eq, sI_eq, sB_eq, sR_eq, Option.bind_some, Option.bind_none, if_true, if_false, true_or, or_true, false_or, or_false, true_and, and_true, false_and, and_false, decide_eq_true_eq, decide_true, decide_false, eq_self, not_true_eq_false, not_false_eq_true, jfit0, N_lit, N_add, N_mul, NEG_eq, pl_none, pl_some, rf_some, rf_none, jun_ref, jun_null, ir_ref, ir_null, jr_rf, jun_rf, Option.toList_some, Option.toList_none, List.nil_append, List.cons_append, hq.1.1]
    · simp only [ty_setI, ty_setR, ty_rowI, ty_rowR, jk_setI, jk_setR, jk_rowI, jk_rowR, jl_setI, jl_setR, jl_rowI, jl_rowR, sz_setI, sz_setR, sz_rowI, sz_rowR, ext_setI, ext_setR, iv_setI, iv_setR, iv_rowI, iv_rowR, rv_setI, rv_setR, rv_rowI, rv_rowR, iv_setIn, iv_rowIn, rv_setRn, rv_rowRn, iv_rowIe, rv_rowRe, and_self, if_true]
    · simp only [ty_setI, ty_setR, ty_rowI, ty_rowR, jk_setI, jk_setR, jk_rowI, jk_rowR, jl_setI, jl_setR, jl_rowI, jl_rowR, sz_setI, sz_setR, sz_rowI, sz_rowR, ext_setI, ext_setR, iv_setI, iv_setR, iv_rowI, iv_rowR, rv_setI, rv_setR, rv_rowI, rv_rowR, iv_setIn, iv_rowIn, rv_setRn, rv_rowRn, iv_rowIe, rv_rowRe, show ¬ (5 : Nat) = 1 by decide, and_false, if_false]; exact hh
    · simp only [ty_setI, ty_setR, ty_rowI, ty_rowR, jk_setI, jk_setR, jk_rowI, jk_rowR, jl_setI, jl_setR, jl_rowI, jl_rowR, sz_setI, sz_setR, sz_rowI, sz_rowR, ext_setI, ext_setR, iv_setI, iv_setR, iv_rowI, iv_rowR, rv_setI, rv_setR, rv_rowI, rv_rowR, iv_setIn, iv_rowIn, rv_setRn, rv_rowRn, iv_rowIe, rv_rowRe, show ¬ q + 3 = q by omega, false_and, if_false]
  rw [jC_run (by decide)]
  show ∃ μ' v, jR (d + (4 * k + 5) + 1) 66 0 [.ref q, .ref f, .int (N b), .int (N dp), .retAddr 0, .retAddr 0, .retAddr 0, .retAddr 0, .retAddr 0, .retAddr 0, .retAddr 0, .retAddr 0, .retAddr 0, .retAddr 0] [] μ = _ ∧ _
  simp only [b66_0, b66_36, b66_52, gI2, gR2, pI2, pR2, rv2, gI5, gR5, pI5, pR5, rv5, gI6, gR6, pI6, pR6, rv6, aI_eq, aB_eq, aR_eq, sI_eq, sB_eq, sR_eq, Option.bind_some, Option.bind_none, if_true, if_false, true_or, or_true, false_or, or_false, true_and, and_true, false_and, and_false, decide_eq_true_eq, decide_true, decide_false, eq_self, not_true_eq_false, not_false_eq_true, jfit0, N_lit, N_add, N_mul, NEG_eq, pl_none, pl_some, rf_some, rf_none, jun_ref, jun_null, ir_ref, ir_null, jr_rf, jun_rf, Option.toList_some, Option.toList_none, List.nil_append, List.cons_append, hq.1.1, hx.2.1, hf.1, hf.r z4.1, hf.r z4.2.1, hf.r z4.2.2.1, hf.k z4.1, hf.k z4.2.1, hf.k z4.2.2.1, hf.2.2.2.2.1, hf.2.2.2.1, alen_of (hf.k z4.1) (by decide), N_lt bb4 lb, jinb_N bb2, jinb_N bb4, b1, a1, N_nat bb2, N_nat bb4, a4, a5, b4, b5, hx.2.2.1.2.1.1, t6, math_min]
  unfold evR at nd
  unfold tR
  cases e1 : lfind (N (kk / 1000 % 1000 / 8)) G with
  | none =>
    rw [e1] at hrc1
    rw [show refC G (kk / 1000 % 1000) = none from hrc1]
    simp only [pl_none, if_true]
    obtain ⟨μ', h1, h2⟩ := lost
    exact ⟨μ', N 0, h1, h2, fun g => absurd g lo_ne⟩
  | some p1 =>
    rw [e1] at hrc1
    have hrc1 : refC G (kk / 1000 % 1000) = some (p1, kk / 1000 % 1000 / 2 % 4) := hrc1
    have l1 := hlt _ _ e1
    rw [hrc1] at nd ⊢
    simp only [pl_some, N_NEG (show p1 < 2147483648 by omega), if_false]
    cases e2 : lfind (N (kk % 1000 / 8)) G with
    | none =>
      rw [e2] at hrc2
      rw [show refC G (kk % 1000) = none from hrc2]
      simp only [pl_none, if_true]
      obtain ⟨μ', h1, h2⟩ := lost
      exact ⟨μ', N 0, h1, h2, fun g => absurd g lo_ne⟩
    | some p2 =>
      rw [e2] at hrc2
      have hrc2 : refC G (kk % 1000) = some (p2, kk % 1000 / 2 % 4) := hrc2
      have l2 := hlt _ _ e2
      rw [hrc2] at nd ⊢
      simp only [pl_some, N_NEG (show p2 < 2147483648 by omega), if_false] at nd ⊢
      have t3 : jiv μ (fa μ f 0) b = wT (kk / 1000000) := t3
      simp only [b66_91, b66_110, gI5, gR5, pI5, pR5, rv5, aI_eq, aB_eq, aR_eq, sI_eq, sB_eq, sR_eq, Option.bind_some, Option.bind_none, if_true, if_false, true_or, or_true, false_or, or_false, true_and, and_true, false_and, and_false, decide_eq_true_eq, decide_true, decide_false, eq_self, not_true_eq_false, not_false_eq_true, jfit0, N_lit, N_add, N_mul, NEG_eq, pl_none, pl_some, rf_some, rf_none, jun_ref, jun_null, ir_ref, ir_null, jr_rf, jun_rf, Option.toList_some, Option.toList_none, List.nil_append, List.cons_append, hf.1, hf.r z4.1, hf.r z4.2.1, hf.k z4.1, hf.k z4.2.1, hf.2.2.2.1, jinb_N bb, jinb_N bb2, jinb_N bb4, t1, b1, a1, N_nat bb, N_nat bb2, N_nat bb4, t3, a4, b4, math_max, imin_N (show kk / 1000 % 1000 / 2 % 4 < 2147483648 by omega) (show kk % 1000 / 2 % 4 < 2147483648 by omega), imax_N (show kk / 1000 % 1000 / 2 % 4 < 2147483648 by omega) (show kk % 1000 / 2 % 4 < 2147483648 by omega)]
      have em : imin (N p1) (N p2) = N (min p1 p2) := imin_N (by omega) (by omega)
      have cells : (List.range' (min p1 p2) (max p1 p2 + 1 - min p1 p2)).flatMap (rrow (p1, kk / 1000 % 1000 / 2 % 4) (p2, kk % 1000 / 2 % 4)) = rcells (p1, kk / 1000 % 1000 / 2 % 4) (p2, kk % 1000 / 2 % 4) := rfl
      by_cases e3 : kk / 1000000 = 3
      · rw [e3] at *
        rw [show wT 3 = N 110 from rfl]
        simp only [show (N 110 = N 109) = False from N_ne (by decide) (by decide) (by decide), show (N 110 = N 108) = False from N_ne (by decide) (by decide) (by decide), if_false, if_true, b66_145, b66_154, math_min, em, aI_eq, aB_eq, aR_eq, sI_eq, sB_eq, sR_eq, Option.bind_some, Option.bind_none, if_true, if_false, true_or, or_true, false_or, or_false, true_and, and_true, false_and, and_false, decide_eq_true_eq, decide_true, decide_false, eq_self, not_true_eq_false, not_false_eq_true, jfit0, N_lit, N_add, N_mul, NEG_eq, pl_none, pl_some, rf_some, rf_none, jun_ref, jun_null, ir_ref, ir_null, jr_rf, jun_rf, Option.toList_some, Option.toList_none, List.nil_append, List.cons_append]
        have hm := many_rows (d := d + (4 * k + 4)) (dp := dp) (q1 := (p1, kk / 1000 % 1000 / 2 % 4)) (q2 := (p2, kk % 1000 / 2 % 4)) (u1 := .ref f) (u2 := .int (N b)) (u4 := .int (N (b + 2))) (u5 := .int (N (b + 4))) (show p1 < 8 by omega) (show p2 < 8 by omega) hc1 hc2 rfl rfl hx hw (max p1 p2 + 1 - min p1 p2) (min p1 p2) 0 (.retAddr 0) (show min p1 p2 + (max p1 p2 + 1 - min p1 p2) = max p1 p2 + 1 by omega)
        rw [cells, Nat.zero_add] at hm
        exact ⟨μ, _, hm, PA.refl hw hh hi, fun _ => rfl⟩
      · simp only [e3, if_false] at nd ⊢
        have hm := fun i0 => rng_rows (d := d) (dp := dp) (q1 := (p1, kk / 1000 % 1000 / 2 % 4)) (q2 := (p2, kk % 1000 / 2 % 4)) (u1 := .ref f) (u2 := .int (N b)) (u4 := .int (N (b + 2))) (u5 := .int (N (b + 4))) (show kk / 1000000 < 3 by omega) ha hd hS hS2 hk hn l1 l2 hG8 hc1 hc2 rfl rfl (max p1 p2 + 1 - min p1 p2) (min p1 p2) none μ i0 (show min p1 p2 + (max p1 p2 + 1 - min p1 p2) = max p1 p2 + 1 by omega) (fun g => absurd g (by omega)) hx hw hh hi nd
        rw [cells] at hm
        obtain ⟨μ', v, m1, m2, m3⟩ := hm (.retAddr 0)
        refine ⟨μ', v, ?_, m2, m3⟩
        rw [← m1]
        generalize kk / 1000000 = wd at *
        obtain rfl | rfl | rfl : wd = 0 ∨ wd = 1 ∨ wd = 2 := by omega
        · rw [show wT 0 = N 116 from rfl, show fo 0 none = N 0 from rfl]
          simp only [show (N 116 = N 109) = False from N_ne (by decide) (by decide) (by decide), show (N 116 = N 108) = False from N_ne (by decide) (by decide) (by decide), if_false, b66_145, b66_154, math_min, em, aI_eq, aB_eq, aR_eq, sI_eq, sB_eq, sR_eq, Option.bind_some, Option.bind_none, if_true, if_false, true_or, or_true, false_or, or_false, true_and, and_true, false_and, and_false, decide_eq_true_eq, decide_true, decide_false, eq_self, not_true_eq_false, not_false_eq_true, jfit0, N_lit, N_add, N_mul, NEG_eq, pl_none, pl_some, rf_some, rf_none, jun_ref, jun_null, ir_ref, ir_null, jr_rf, jun_rf, Option.toList_some, Option.toList_none, List.nil_append, List.cons_append]
        · rw [show wT 1 = N 109 from rfl, show fo 1 none = -(N 2147483648) from rfl]
          simp only [if_true, b66_145, b66_154, math_min, em, aI_eq, aB_eq, aR_eq, sI_eq, sB_eq, sR_eq, Option.bind_some, Option.bind_none, if_true, if_false, true_or, or_true, false_or, or_false, true_and, and_true, false_and, and_false, decide_eq_true_eq, decide_true, decide_false, eq_self, not_true_eq_false, not_false_eq_true, jfit0, N_lit, N_add, N_mul, NEG_eq, pl_none, pl_some, rf_some, rf_none, jun_ref, jun_null, ir_ref, ir_null, jr_rf, jun_rf, Option.toList_some, Option.toList_none, List.nil_append, List.cons_append]
        · rw [show wT 2 = N 108 from rfl, show fo 2 none = N 2147483647 from rfl]
          simp only [show (N 108 = N 109) = False from N_ne (by decide) (by decide) (by decide), if_false, if_true, b66_145, b66_154, math_min, em, aI_eq, aB_eq, aR_eq, sI_eq, sB_eq, sR_eq, Option.bind_some, Option.bind_none, if_true, if_false, true_or, or_true, false_or, or_false, true_and, and_true, false_and, and_false, decide_eq_true_eq, decide_true, decide_false, eq_self, not_true_eq_false, not_false_eq_true, jfit0, N_lit, N_add, N_mul, NEG_eq, pl_none, pl_some, rf_some, rf_none, jun_ref, jun_null, ir_ref, ir_null, jr_rf, jun_rf, Option.toList_some, Option.toList_none, List.nil_append, List.cons_append]
end RNG2
