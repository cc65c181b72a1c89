/-! THE BOARD: undone, as another one, settled -/
section BOARD
variable {μ μ' μ'' : jM} {B D b b' g d lo hi : Nat} {s s' : PB}
theorem N_mod6 {n : Nat} (h : n < 1000) : N n - N (n / 6 * 6) = N (n % 6) := by
  rw [N_sub (by omega)]
  congr 1; omega
theorem N_div {n k : Nat} (h : n < 1000) (hk : 0 < k) (hk2 : k < 1000) : N n / N k = N (n / k) := by
  have h1 : n / k ≤ n := Nat.div_le_self _ _
  refine Int32.toInt_inj.mp ?_
  rw [Int32.toInt_div_of_ne_right, N_toInt (by omega), N_toInt (by omega), N_toInt (by omega)]
  · rw [Int.tdiv_eq_ediv_of_nonneg (by omega)]; rfl
  · intro e
    have := congrArg Int32.toInt e
    rw [N_toInt (by omega)] at this
    have h2 : (-1 : Int32).toInt = -1 := by decide
    omega
theorem d_undoLatest (h : BR μ D b s) : (s.2.2 = [] → jC (d + 2) 72 [.ref b] μ = some (some (.int (N 0)), μ)) ∧ ∀ hd tl, s.2.2 = hd :: tl → ∃ μ', jC (d + 2) 72 [.ref b] μ = some (some (.int (N 1)), μ') ∧ FI b (b + 137) μ μ' ∧ BR μ' D b (fun g => if g < 3 then hd g else s.1 g, s.2.1, tl) := by
  obtain ⟨h0, h1, h2, h3, h4, nc, h5, h6, h7, h8, h9⟩ := h
  have b1 : (1 : Nat) < 2147483648 := by decide
  have b3 : (3 : Nat) < 2147483648 := by decide
  constructor
  · intro e
    rw [e] at h7
    rw [jC_run (by decide)]
    show jR (d + 2) 72 0 [.ref b, .retAddr 0] [] μ = _
    rw [b72_0]
    simp only [gI3, gR3, pI3, pR3, rv3, aI_eq, aB_eq, aR_eq, sI_eq, sB_eq, sR_eq, Option.bind_some, Option.bind_none, if_true, if_false, true_or, or_true, false_or, or_false, true_and, and_true, false_and, and_false, decide_eq_true_eq, decide_true, decide_false, eq_self, not_true_eq_false, not_false_eq_true, jfit0, N_lit, N_add, N_mul, NEG_eq, pl_none, pl_some, rf_some, rf_none, jun_ref, jun_null, ir_ref, ir_null, jr_rf, jun_rf, Option.toList_some, Option.toList_none, List.nil_append, List.cons_append, h1.1, h7, List.length_nil, N_lt (show 0 < 2147483648 by decide) b1, Nat.zero_lt_one]
  · intro hd tl e
    rw [e] at h7 h8 h9
    simp only [List.length_cons] at h7 h8
    obtain ⟨m0, hm0⟩ : ∃ m0, m0 = jsetI (jsetI μ b 7 (N tl.length)) b 6 (N ((nc + 5) % 6)) := ⟨_, rfl⟩
    have F0 : Fx (fun a => a = b) (fun _ _ => False) μ m0 := by
      rw [hm0]
      refine Fx.setI (Fx.setI Fx.refl ?_) ?_
      · show b = b; rfl
      · show b = b; rfl
    have hn6 : (nc + 5) % 6 < 6 := Nat.mod_lt _ (by decide)
    have i6 : jiv m0 b 6 = N ((nc + 5) % 6) := by rw [hm0]; simp only [ty_setI, ty_setR, ty_rowI, ty_rowR, jk_setI, jk_setR, jk_rowI, jk_rowR, jl_setI, jl_setR, jl_rowI, jl_rowR, sz_setI, sz_setR, sz_rowI, sz_rowR, ext_setI, ext_setR, iv_setI, iv_setR, iv_rowI, iv_rowR, rv_setI, rv_setR, rv_rowI, rv_rowR, iv_setIn, iv_rowIn, rv_setRn, rv_rowRn, iv_rowIe, rv_rowRe, true_and, if_true]
    have i7 : jiv m0 b 7 = N tl.length := by rw [hm0]; simp only [ty_setI, ty_setR, ty_rowI, ty_rowR, jk_setI, jk_setR, jk_rowI, jk_rowR, jl_setI, jl_setR, jl_rowI, jl_rowR, sz_setI, sz_setR, sz_rowI, sz_rowR, ext_setI, ext_setR, iv_setI, iv_setR, iv_rowI, iv_rowR, rv_setI, rv_setR, rv_rowI, rv_rowR, iv_setIn, iv_rowIn, rv_setRn, rv_rowRn, iv_rowIe, rv_rowRe, true_and, Nat.reduceEqDiff, if_true, if_false]
    have o0 : ∀ x, b < x → GV μ D x → GV m0 D x ∧ dG m0 (xA x) = dG μ (xA x) := fun x hx hv => hv.outx F0 (fun a ha => by have h : a = b := ha; subst h; exact ⟨by omega, by omega⟩) (fun a j ha => ha.elim)
    obtain ⟨q1, q2⟩ := h3.1.out F0 (fun a ha => by have h : a = b := ha; omega) (fun a j ha => ha.elim)
    have loop : ∀ n i m, i + n = 3 → FI b (b + 137) m0 m → jiv m b = jiv m0 b → BS m b → RV m (b + 25) → rL m (b + 25) = rL μ (b + 25) → (∀ g, g < 4 → GV m D (b + 1 + 6 * g) ∧ (dG m (xA (b + 1 + 6 * g)) = if g < i then hd g else s.1 g)) → (∀ j, j < 18 → GV m D (bG b j) ∧ dG m (xA (bG b j)) = dG μ (xA (bG b j))) →
        ∃ m', jR (d + 2) 72 38 [.ref b, .int (N i)] [] m = some (some (.int (N 1)), m') ∧ FI b (b + 137) m0 m' ∧ jiv m' b = jiv m0 b ∧ BS m' b ∧ RV m' (b + 25) ∧ rL m' (b + 25) = rL μ (b + 25) ∧ (∀ g, g < 4 → GV m' D (b + 1 + 6 * g) ∧ (dG m' (xA (b + 1 + 6 * g)) = if g < 3 then hd g else s.1 g)) ∧ (∀ j, j < 18 → GV m' D (bG b j) ∧ dG m' (xA (bG b j)) = dG μ (xA (bG b j))) := by
      intro n
      induction n with
      | zero =>
        intro i m hi q1 q2 q3 q4 q5 q6 q7
        have hi : i = 3 := hi
        subst hi
        refine ⟨m, ?_, q1, q2, q3, q4, q5, q6, q7⟩
        rw [b72_38]
        simp only [aI_eq, aB_eq, aR_eq, sI_eq, sB_eq, sR_eq, Option.bind_some, Option.bind_none, if_true, if_false, true_or, or_true, false_or, or_false, true_and, and_true, false_and, and_false, decide_eq_true_eq, decide_true, decide_false, eq_self, not_true_eq_false, not_false_eq_true, jfit0, N_lit, N_add, N_mul, NEG_eq, pl_none, pl_some, rf_some, rf_none, jun_ref, jun_null, ir_ref, ir_null, jr_rf, jun_rf, Option.toList_some, Option.toList_none, List.nil_append, List.cons_append, N_lt b3 b3, Nat.lt_irrefl]
      | succ n ih =>
        intro i m hi q1 q2 q3 q4 q5 q6 q7
        have bi : i < 2147483648 := by omega
        have hi3 : i < 3 := by omega
        have hx : (nc + 5) % 6 * 3 + i < 18 := by omega
        have bx : (nc + 5) % 6 * 3 + i < 2147483648 := by omega
        have e6 : jiv m b 6 = N ((nc + 5) % 6) := by rw [q2]; exact i6
        obtain ⟨m', r1, r2, r3, r4⟩ := d_become (d := d) (g := b + 1 + 6 * i) (q6 i (by omega)).1.2.1 (q6 i (by omega)).1.1 (q7 _ hx).1 (by unfold bG; omega)
        have run : jR (d + 2) 72 38 [.ref b, .int (N i)] [] m = jR (d + 2) 72 38 [.ref b, .int (N (i + 1))] [] m' := by
          rw [b72_38]
          simp only [gI3, gR3, pI3, pR3, rv3, aI_eq, aB_eq, aR_eq, sI_eq, sB_eq, sR_eq, Option.bind_some, Option.bind_none, if_true, if_false, true_or, or_true, false_or, or_false, true_and, and_true, false_and, and_false, decide_eq_true_eq, decide_true, decide_false, eq_self, not_true_eq_false, not_false_eq_true, jfit0, N_lit, N_add, N_mul, NEG_eq, pl_none, pl_some, rf_some, rf_none, jun_ref, jun_null, ir_ref, ir_null, jr_rf, jun_rf, Option.toList_some, Option.toList_none, List.nil_append, List.cons_append, N_lt bi b3, hi3, q3.1, d_gridAt q3 (show i < 4 by omega), b72_48, q3.2.1, e6, jinb_N bx, hx, N_nat bx, show 30 ≤ 31 ∧ 31 < 36 by decide, q3.2.2 _ hx, rv6, (q6 i (by omega)).1.2.1.1, r1, b72_64]
        have out : ∀ x, GV m D x → (b + 1 + 6 * i + 6 ≤ x ∨ x + 6 ≤ b + 1 + 6 * i) → GV m' D x ∧ dG m' (xA x) = dG m (xA x) := fun x hx hd => hx.out r2 (q6 _ (by omega)).1.1 hd
        have hbe : dG m (xA (bG b ((nc + 5) % 6 * 3 + i))) = hd i := by
          rw [(q7 _ hx).2]
          have := h9 0 hd rfl i hi3
          rw [show (nc + 6 - 1 - 0) % 6 = (nc + 5) % 6 by omega] at this
          exact this
        obtain ⟨z, z1⟩ := ih (i + 1) m' (by omega) (q1.trans (r2.fi (by omega) (by omega))) ((r2.iv (show ¬ (b + 1 + 6 * i ≤ b ∧ _) by omega)).trans q2) (q3.out r2 (fun a j ha => by omega)) (q4.out r2 (fun a ha => by omega) (fun a j ha => by omega)).1 (by rw [(q4.out r2 (fun a ha => by omega) (fun a j ha => by omega)).2]; exact q5)
          (fun g hg => by
            by_cases e : g = i
            · rw [e]
              exact ⟨r3, by rw [r4, hbe, if_pos (Nat.lt_succ_self _)]⟩
            · obtain ⟨o1, o2⟩ := out _ (q6 g hg).1 (by omega)
              refine ⟨o1, ?_⟩
              rw [o2, (q6 g hg).2]
              by_cases e2 : g < i
              · rw [if_pos e2, if_pos (by omega)]
              · rw [if_neg e2, if_neg (by omega)])
          (fun j hj => by
            obtain ⟨o1, o2⟩ := out _ (q7 j hj).1 (by unfold bG; omega)
            exact ⟨o1, by rw [o2]; exact (q7 j hj).2⟩)
        exact ⟨z, by rw [run]; exact z1.1, z1.2⟩
    obtain ⟨m', a1, a2, a3, a4, a5, a6, a7, a8⟩ := loop 3 0 m0 rfl FI.refl rfl (h1.out F0 (fun a j h => h.elim)) q1 q2 (fun g hg => by
        obtain ⟨p1, p2⟩ := o0 _ (by omega) (h2 g hg).1
        exact ⟨p1, by rw [p2, if_neg (Nat.not_lt_zero g)]; exact (h2 g hg).2⟩) (fun j hj => o0 _ (by unfold bG; omega) (h4 j hj))
    refine ⟨m', ?_, (Fx.mono F0 (fun a h => ⟨by omega, by omega⟩) (fun a j h => h.elim)).trans a2, h0, a4, a7, ⟨a5, fun c hc => by rw [a6]; exact h3.2 c hc⟩, fun i hi => (a8 i hi).1, (nc + 5) % 6, hn6, by rw [a3]; exact i6, by rw [a3]; exact i7, by show tl.length ≤ 6; omega, ?_⟩
    · rw [jC_run (by decide)]
      show jR (d + 2) 72 0 [.ref b, .retAddr 0] [] μ = _
      rw [b72_0]
      have e6 : N (nc + 6) - N 1 = N (nc + 5) := N_sub (by omega)
      have e7 : N (tl.length + 1) - N 1 = N tl.length := N_sub (by omega)
      simp only [gI3, gR3, pI3, pR3, rv3, aI_eq, aB_eq, aR_eq, sI_eq, sB_eq, sR_eq, Option.bind_some, Option.bind_none, if_true, if_false, true_or, or_true, false_or, or_false, true_and, and_true, false_and, and_false, decide_eq_true_eq, decide_true, decide_false, eq_self, not_true_eq_false, not_false_eq_true, jfit0, N_lit, N_add, N_mul, NEG_eq, pl_none, pl_some, rf_some, rf_none, jun_ref, jun_null, ir_ref, ir_null, jr_rf, jun_rf, Option.toList_some, Option.toList_none, List.nil_append, List.cons_append, ty_setI, ty_setR, ty_rowI, ty_rowR, jk_setI, jk_setR, jk_rowI, jk_rowR, jl_setI, jl_setR, jl_rowI, jl_rowR, sz_setI, sz_setR, sz_rowI, sz_rowR, ext_setI, ext_setR, iv_setI, iv_setR, iv_rowI, iv_rowR, rv_setI, rv_setR, rv_rowI, rv_rowR, iv_setIn, iv_rowIn, rv_setRn, rv_rowRn, iv_rowIe, rv_rowRe, h1.1, h7, N_lt (show tl.length + 1 < 2147483648 by omega) b1, show ¬ (tl.length + 1 < 1) by omega, true_and, Nat.reduceEqDiff, h6, e6, e7, N_div (show nc + 5 < 1000 by omega) (show 0 < 6 by decide) (show 6 < 1000 by decide), N_mod6 (show nc + 5 < 1000 by omega)]
      rw [← hm0]
      exact a1
    · intro j h hj g hg
      have hj2 : j < tl.length := (List.getElem?_eq_some_iff.mp hj).1
      have hm6 := Nat.mod_lt ((nc + 5) % 6 + 6 - 1 - j) (show 6 > 0 by decide)
      rw [(a8 _ (by omega)).2]
      have := h9 (j + 1) h (by simpa using hj) g hg
      rw [show (nc + 6 - 1 - (j + 1)) % 6 = ((nc + 5) % 6 + 6 - 1 - j) % 6 by omega] at this
      exact this
/-- the parts of a board that its loops keep -/
theorem d_boardBecome (h : BR μ D b s) (h' : BR μ D b' s') (hd : b + 137 ≤ b' ∨ b' + 137 ≤ b) : ∃ μ', jC (d + 2) 73 [.ref b, .ref b'] μ = some (none, μ') ∧ FI b (b + 137) μ μ' ∧ BR μ' D b s' := by
  obtain ⟨h0, h1, h2, h3, h4, nc0, -, -, -, -, -⟩ := h
  obtain ⟨k0, k1, k2, k3, k4, nc, k5, k6, k7, k8, k9⟩ := h'
  have b4 : (4 : Nat) < 2147483648 := by decide
  have b18 : (18 : Nat) < 2147483648 := by decide
  -- the grids
  have loop1 : ∀ n i m, i + n = 4 → FI b (b + 137) μ m → BS m b → RV m (b + 25) → (∀ g, g < 4 → GV m D (b + 1 + 6 * g)) → (∀ g, g < i → dG m (xA (b + 1 + 6 * g)) = s'.1 g) → (∀ j, j < 18 → GV m D (bG b j)) →
      ∃ m', jR (d + 2) 73 2 [.ref b, .ref b', .int (N i)] [] m = jR (d + 2) 73 2 [.ref b, .ref b', .int (N 4)] [] m' ∧ FI b (b + 137) μ m' ∧ BS m' b ∧ RV m' (b + 25) ∧ (∀ g, g < 4 → GV m' D (b + 1 + 6 * g)) ∧ (∀ g, g < 4 → dG m' (xA (b + 1 + 6 * g)) = s'.1 g) ∧ (∀ j, j < 18 → GV m' D (bG b j)) := by
    intro n
    induction n with
    | zero =>
      intro i m hi q1 q2 q3 q4 q5 q6
      have hi : i = 4 := hi
      subst hi
      exact ⟨m, rfl, q1, q2, q3, q4, q5, q6⟩
    | succ n ih =>
      intro i m hi q1 q2 q3 q4 q5 q6
      have bi : i < 2147483648 := by omega
      have hi4 : i < 4 := by omega
      obtain ⟨p1, p2⟩ := (k2 i hi4).1.outx q1 (fun a ha => by omega) (fun a j ha => by omega)
      have kb : BS m b' := k1.out q1 (fun a j ha => by omega)
      obtain ⟨m', r1, r2, r3, r4⟩ := d_become (d := d) (g := b + 1 + 6 * i) (q4 i hi4).2.1 (q4 i hi4).1 p1 (by omega)
      have run : jR (d + 2) 73 2 [.ref b, .ref b', .int (N i)] [] m = jR (d + 2) 73 2 [.ref b, .ref b', .int (N (i + 1))] [] m' := by
        rw [b73_2 (h1 := ir_ref)]
        simp only [gI3, gR3, pI3, pR3, rv3, aI_eq, aB_eq, aR_eq, sI_eq, sB_eq, sR_eq, Option.bind_some, Option.bind_none, if_true, if_false, true_or, or_true, false_or, or_false, true_and, and_true, false_and, and_false, decide_eq_true_eq, decide_true, decide_false, eq_self, not_true_eq_false, not_false_eq_true, jfit0, N_lit, N_add, N_mul, NEG_eq, pl_none, pl_some, rf_some, rf_none, jun_ref, jun_null, ir_ref, ir_null, jr_rf, jun_rf, Option.toList_some, Option.toList_none, List.nil_append, List.cons_append, N_lt bi b4, hi4, q2.1, d_gridAt q2 hi4, b73_12, kb.1, d_gridAt kb hi4, b73_17, rv6, (q4 i hi4).2.1.1, r1, b73_20]
      have out : ∀ x, GV m D x → (b + 1 + 6 * i + 6 ≤ x ∨ x + 6 ≤ b + 1 + 6 * i) → GV m' D x ∧ dG m' (xA x) = dG m (xA x) := fun x hx hd => hx.out r2 (q4 i hi4).1 hd
      obtain ⟨z, z1⟩ := ih (i + 1) m' (by omega) (q1.trans (r2.fi (by omega) (by omega))) (q2.out r2 (fun a j ha => by omega)) (q3.out r2 (fun a ha => by omega) (fun a j ha => by omega)).1
        (fun g hg => by
          by_cases e : g = i
          · rw [e]; exact r3
          · exact (out _ (q4 g hg) (by omega)).1)
        (fun g hg => by
          by_cases e : g = i
          · rw [e, r4, p2]; exact (k2 i hi4).2
          · rw [(out _ (q4 g (by omega)) (by omega)).2]; exact q5 g (by omega))
        (fun j hj => (out _ (q6 j hj) (by unfold bG; omega)).1)
      exact ⟨z, by rw [run]; exact z1.1, z1.2⟩
  obtain ⟨m1, a1, a2, a3, a4, a5, a6, a7⟩ := loop1 4 0 μ rfl FI.refl h1 h3.1 (fun g hg => (h2 g hg).1) (fun g hg => absurd hg (Nat.not_lt_zero g)) h4
  obtain ⟨c1, c2⟩ := k3.1.out a2 (fun a ha => by omega) (fun a j ha => by omega)
  obtain ⟨m2, r1, r2, r3, r4⟩ := d_rbecome (d := d) a4 c1 (by omega)
  have F2 : FI b (b + 137) m1 m2 := Fx.mono r2 (fun a h => ⟨by omega, by omega⟩) (fun a j h => h.elim)
  have out2 : ∀ x, GV m1 D x → (b + 28 ≤ x ∨ x + 6 ≤ b + 25) → GV m2 D x ∧ dG m2 (xA x) = dG m1 (xA x) := fun x hx hd => hx.outx r2 (fun a ha => by omega) (fun a j ha => ha.elim)
  have g2 : ∀ g, g < 4 → GV m2 D (b + 1 + 6 * g) ∧ dG m2 (xA (b + 1 + 6 * g)) = s'.1 g := fun g hg => by
    obtain ⟨o1, o2⟩ := out2 _ (a5 g hg) (by omega)
    exact ⟨o1, by rw [o2]; exact a6 g hg⟩
  -- what was ahead
  have loop2 : ∀ n i m, i + n = 18 → FI b (b + 137) m2 m → jiv m b = jiv m2 b → BS m b → RV m (b + 25) → rL m (b + 25) = rL m2 (b + 25) → (∀ g, g < 4 → GV m D (b + 1 + 6 * g) ∧ dG m (xA (b + 1 + 6 * g)) = s'.1 g) → (∀ j, j < 18 → GV m D (bG b j)) → (∀ j, j < i → dG m (xA (bG b j)) = dG μ (xA (bG b' j))) →
      ∃ m', jR (d + 2) 73 39 [.ref b, .ref b', .int (N i)] [] m = jR (d + 2) 73 39 [.ref b, .ref b', .int (N 18)] [] m' ∧ FI b (b + 137) m2 m' ∧ jiv m' b = jiv m2 b ∧ BS m' b ∧ RV m' (b + 25) ∧ rL m' (b + 25) = rL m2 (b + 25) ∧ (∀ g, g < 4 → GV m' D (b + 1 + 6 * g) ∧ dG m' (xA (b + 1 + 6 * g)) = s'.1 g) ∧ (∀ j, j < 18 → GV m' D (bG b j)) ∧ (∀ j, j < 18 → dG m' (xA (bG b j)) = dG μ (xA (bG b' j))) := by
    intro n
    induction n with
    | zero =>
      intro i m hi q1 q2 q3 q4 q5 q6 q7 q8
      have hi : i = 18 := hi
      subst hi
      exact ⟨m, rfl, q1, q2, q3, q4, q5, q6, q7, q8⟩
    | succ n ih =>
      intro i m hi q1 q2 q3 q4 q5 q6 q7 q8
      have bi : i < 2147483648 := by omega
      have hi8 : i < 18 := by omega
      have FF : FI b (b + 137) μ m := (a2.trans F2).trans q1
      obtain ⟨p1, p2⟩ := (k4 i hi8).outx FF (fun a ha => by unfold bG; omega) (fun a j ha => by unfold bG; omega)
      have kb : BS m b' := k1.out FF (fun a j ha => by omega)
      obtain ⟨m', r1, r2, r3, r4⟩ := d_become (d := d) (g := bG b i) (q7 i hi8).2.1 (q7 i hi8).1 p1 (by unfold bG; omega)
      have run : jR (d + 2) 73 39 [.ref b, .ref b', .int (N i)] [] m = jR (d + 2) 73 39 [.ref b, .ref b', .int (N (i + 1))] [] m' := by
        rw [b73_39 (h1 := ir_ref)]
        simp only [gI3, gR3, pI3, pR3, rv3, aI_eq, aB_eq, aR_eq, sI_eq, sB_eq, sR_eq, Option.bind_some, Option.bind_none, if_true, if_false, true_or, or_true, false_or, or_false, true_and, and_true, false_and, and_false, decide_eq_true_eq, decide_true, decide_false, eq_self, not_true_eq_false, not_false_eq_true, jfit0, N_lit, N_add, N_mul, NEG_eq, pl_none, pl_some, rf_some, rf_none, jun_ref, jun_null, ir_ref, ir_null, jr_rf, jun_rf, Option.toList_some, Option.toList_none, List.nil_append, List.cons_append, q3.1, q3.2.1, kb.1, kb.2.1, alen_of q3.1.2.1 (by decide), N_lt bi b18, hi8, jinb_N bi, N_nat bi, show 30 ≤ 31 ∧ 31 < 36 by decide, q3.2.2 _ hi8, kb.2.2 _ hi8, rv6, (q7 i hi8).2.1.1, r1, b73_63]
      have out : ∀ x, GV m D x → (bG b i + 6 ≤ x ∨ x + 6 ≤ bG b i) → GV m' D x ∧ dG m' (xA x) = dG m (xA x) := fun x hx hd => hx.out r2 (q7 i hi8).1 hd
      obtain ⟨z, z1⟩ := ih (i + 1) m' (by omega) (q1.trans (r2.fi (by unfold bG; omega) (by unfold bG; omega))) ((r2.iv (show ¬ (bG b i ≤ b ∧ _) by unfold bG; omega)).trans q2) (q3.out r2 (fun a j ha => by unfold bG at ha; omega)) (q4.out r2 (fun a ha => by unfold bG at ha; omega) (fun a j ha => by unfold bG at ha; omega)).1 (by rw [(q4.out r2 (fun a ha => by unfold bG at ha; omega) (fun a j ha => by unfold bG at ha; omega)).2]; exact q5)
        (fun g hg => by
          obtain ⟨o1, o2⟩ := out _ (q6 g hg).1 (by unfold bG; omega)
          exact ⟨o1, by rw [o2]; exact (q6 g hg).2⟩)
        (fun j hj => by
          by_cases e : j = i
          · rw [e]; exact r3
          · exact (out _ (q7 j hj) (by unfold bG; omega)).1)
        (fun j hj => by
          by_cases e : j = i
          · rw [e, r4, p2]
          · rw [(out _ (q7 j (by omega)) (by unfold bG; omega)).2]; exact q8 j (by omega))
      exact ⟨z, by rw [run]; exact z1.1, z1.2⟩
  have i2 : jiv m2 b = jiv m1 b := r2.iv (show ¬ (b + 25 ≤ b ∧ b < b + 25 + 3) by omega)
  obtain ⟨m3, e1, e2, e3, e4, e5, e6, e7, e8, e9⟩ := loop2 18 0 m2 rfl FI.refl rfl (a3.out r2 (fun a j h => h.elim)) r3 rfl g2 (fun j hj => (out2 _ (a7 j hj) (by unfold bG; omega)).1) (fun j hj => absurd hj (Nat.not_lt_zero j))
  have FF : FI b (b + 137) μ m3 := (a2.trans F2).trans e2
  have kb : BS m3 b' := k1.out FF (fun a j ha => by omega)
  have kb' : jiv m3 b' = jiv μ b' := FF.iv (show ¬ (b ≤ b' ∧ b' < b + 137) by omega)
  obtain ⟨μ', hμ'⟩ : ∃ μ', μ' = jsetI (jsetI m3 b 6 (N nc)) b 7 (N s'.2.2.length) := ⟨_, rfl⟩
  have F : Fx (fun a => a = b) (fun _ _ => False) m3 μ' := by
    rw [hμ']
    refine Fx.setI (Fx.setI Fx.refl ?_) ?_
    · show b = b; rfl
    · show b = b; rfl
  have out3 : ∀ x, GV m3 D x → b < x → GV μ' D x ∧ dG μ' (xA x) = dG m3 (xA x) := fun x hx hlt => hx.outx F (fun a ha => by have h : a = b := ha; subst h; exact ⟨by omega, by omega⟩) (fun a j ha => ha.elim)
  obtain ⟨q1, q2⟩ := e5.out F (fun a ha => by have h : a = b := ha; omega) (fun a j ha => ha.elim)
  refine ⟨μ', ?_, FF.trans (Fx.mono F (fun a h => ⟨by omega, by omega⟩) (fun a j h => h.elim)), h0, e4.out F (fun a j h => h.elim), fun g hg => ?_, ⟨q1, fun c hc => ?_⟩, fun i hi => (out3 _ (e8 i hi) (by unfold bG; omega)).1, nc, k5, ?_, ?_, k8, ?_⟩
  · rw [jC_run (by decide)]
    show jR (d + 2) 73 0 [.ref b, .ref b', .retAddr 0] [] μ = _
    rw [b73_0 (h1 := ir_ref), N_lit, a1, b73_2 (h1 := ir_ref)]
    have kb1 : BS m1 b' := k1.out a2 (fun a j ha => by omega)
    have eb : jiv (jsetI m3 b 6 (N nc)) b' = jiv μ b' := by rw [iv_setIn (show ¬ b' = b by omega)]; exact kb'
    simp only [gI3, gR3, pI3, pR3, rv3, gI8, gR8, pI8, pR8, rv8, aI_eq, aB_eq, aR_eq, sI_eq, sB_eq, sR_eq, Option.bind_some, Option.bind_none, if_true, if_false, true_or, or_true, false_or, or_false, true_and, and_true, false_and, and_false, decide_eq_true_eq, decide_true, decide_false, eq_self, not_true_eq_false, not_false_eq_true, jfit0, N_lit, N_add, N_mul, NEG_eq, pl_none, pl_some, rf_some, rf_none, jun_ref, jun_null, ir_ref, ir_null, jr_rf, jun_rf, Option.toList_some, Option.toList_none, List.nil_append, List.cons_append, N_lt b4 b4, Nat.lt_irrefl, a3.1, a3.2.1, kb1.1, kb1.2.1, a4.1, r1, b73_37]
    rw [e1, b73_39 (h1 := ir_ref), hμ']
    have d0 : (jiv m3 b' 6) = N nc := by rw [kb']; exact k6
    simp only [gI3, gR3, pI3, pR3, rv3, aI_eq, aB_eq, aR_eq, sI_eq, sB_eq, sR_eq, Option.bind_some, Option.bind_none, if_true, if_false, true_or, or_true, false_or, or_false, true_and, and_true, false_and, and_false, decide_eq_true_eq, decide_true, decide_false, eq_self, not_true_eq_false, not_false_eq_true, jfit0, N_lit, N_add, N_mul, NEG_eq, pl_none, pl_some, rf_some, rf_none, jun_ref, jun_null, ir_ref, ir_null, jr_rf, jun_rf, Option.toList_some, Option.toList_none, List.nil_append, List.cons_append, e4.1, e4.2.1, alen_of e4.1.2.1 (by decide), N_lt b18 b18, Nat.lt_irrefl, kb.1, d0, jk_setI, eb, k7]
  · obtain ⟨o1, o2⟩ := out3 _ (e7 g hg).1 (by omega)
    exact ⟨o1, by rw [o2]; exact (e7 g hg).2⟩
  · rw [q2, e6, r4 c hc, c2]; exact k3.2 c hc
  · rw [hμ']; simp only [ty_setI, ty_setR, ty_rowI, ty_rowR, jk_setI, jk_setR, jk_rowI, jk_rowR, jl_setI, jl_setR, jl_rowI, jl_rowR, sz_setI, sz_setR, sz_rowI, sz_rowR, ext_setI, ext_setR, iv_setI, iv_setR, iv_rowI, iv_rowR, rv_setI, rv_setR, rv_rowI, rv_rowR, iv_setIn, iv_rowIn, rv_setRn, rv_rowRn, iv_rowIe, rv_rowRe, true_and, Nat.reduceEqDiff, if_true, if_false]
  · rw [hμ']; simp only [ty_setI, ty_setR, ty_rowI, ty_rowR, jk_setI, jk_setR, jk_rowI, jk_rowR, jl_setI, jl_setR, jl_rowI, jl_rowR, sz_setI, sz_setR, sz_rowI, sz_rowR, ext_setI, ext_setR, iv_setI, iv_setR, iv_rowI, iv_rowR, rv_setI, rv_setR, rv_rowI, rv_rowR, iv_setIn, iv_rowIn, rv_setRn, rv_rowRn, iv_rowIe, rv_rowRe, true_and, Nat.reduceEqDiff, if_true, if_false]
  · intro j h hj g hg
    have hm6 := Nat.mod_lt (nc + 6 - 1 - j) (show 6 > 0 by decide)
    rw [(out3 _ (e8 _ (by omega)) (by unfold bG; omega)).2, e9 _ (by omega)]
    exact k9 j h hj g hg
end BOARD
