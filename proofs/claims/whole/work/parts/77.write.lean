/-! THE CLASS's CALLS: filled, written, fed -/
section TOP
variable {μ μ' μ'' : jM} {n w m v lo hi a b r q s D d X i k p : Nat} {σ σ' : SG} {x y z u g c : Int32}
theorem t_fill (hb : BI μ X) (h : XR μ X σ) (hw : ∀ i, i < 3 → KK (σ.1.1 i)) : OP (d + 5) 26 [.ref X, .int g, .int x, .int y, .int z] μ X (o_fill σ g x y z) 14 308 := by
  obtain ⟨k12, r0, -⟩ := h.s0
  unfold OP
  rw [jC_run (by decide)]
  show ∃ μ', jR (d + 5) 26 0 [.ref X, .int g, .int x, .int y, .int z] [] μ = _ ∧ _
  rw [b26_0]
  simp only [x_isInputCell h, gI12, gR12, pI12, pR12, rv12, aI_eq, aB_eq, aR_eq, sI_eq, sB_eq, sR_eq, Option.bind_some, Option.bind_none, if_true, if_false, true_or, or_true, false_or, or_false, true_and, and_true, false_and, and_false, decide_eq_true_eq, decide_true, decide_false, eq_self, not_true_eq_false, not_false_eq_true, jfit0, N_lit, N_add, N_mul, NEG_eq, pl_none, pl_some, rf_some, rf_none, jun_ref, jun_null, ir_ref, ir_null, jr_rf, jun_rf, Option.toList_some, Option.toList_none, List.nil_append, List.cons_append, k12]
  rw [b26_7]
  unfold o_fill
  cases e : cix σ 3 g x y with
  | none =>
    refine ⟨μ, ?_, XT.refl hb h⟩
    simp only [Option.isSome_none, bN_false, N_lit, if_true, b26_21]
  | some p =>
    obtain ⟨rfl, hi, rfl, hp, rfl, hc⟩ := cix_3 e h.len8
    have hi4 : p.1 < 4 := by omega
    have hl := h.l8 hi4
    simp only [Option.isSome_some, bN_true, N_lit, n10, if_false, x_isIn, aI_eq, aB_eq, aR_eq, sI_eq, sB_eq, sR_eq, Option.bind_some, Option.bind_none, if_true, if_false, true_or, or_true, false_or, or_false, true_and, and_true, false_and, and_false, decide_eq_true_eq, decide_true, decide_false, eq_self, not_true_eq_false, not_false_eq_true, jfit0, N_lit, N_add, N_mul, NEG_eq, pl_none, pl_some, rf_some, rf_none, jun_ref, jun_null, ir_ref, ir_null, jr_rf, jun_rf, Option.toList_some, Option.toList_none, List.nil_append, List.cons_append]
    rw [b26_18]
    by_cases e3 : z < N 1 ∨ N 7 < z
    · refine ⟨μ, ?_, ?_⟩
      · rw [pN_neg (fun g => e3.elim g.1 g.2), if_pos (by rfl), b26_21]
        simp only [if_pos e3]; rfl
      · simp only [if_pos e3]; exact XT.refl hb h
    · obtain ⟨n, hn, hn1, hn7⟩ : ∃ n, z = N n ∧ 1 ≤ n ∧ n ≤ 7 := by
        have h1 : ¬ z < N 1 := fun g => e3 (Or.inl g)
        have h7 : ¬ N 7 < z := fun g => e3 (Or.inr g)
        have h0 : ¬ z < N 0 := fun g => h1 (by
          rw [Int32.lt_iff_toInt_lt] at g ⊢
          rw [N_toInt (by decide)] at g ⊢
          omega)
        obtain ⟨b, hb, rfl⟩ := N_of h0
        rw [N_lt hb (by decide)] at h1
        rw [N_lt (by decide) hb] at h7
        exact ⟨b, rfl, by omega, by omega⟩
      subst hn
      rw [pN_pos ⟨fun g => e3 (Or.inl g), fun g => e3 (Or.inr g)⟩]
      simp only [if_neg e3, N_nat (show n < 2147483648 by omega)]
      obtain ⟨μ1, c1, T1⟩ := t_begin (d := d + 1) hb h
      have h1 := T1.2.2
      obtain ⟨j12, j0, -⟩ := h1.s0
      obtain ⟨hg1, hd1⟩ := h1.gg hi4
      have hd1 : dG μ1 (xA (gA X p.1)) = σ.1.1 p.1 := hd1
      obtain ⟨μ2, c2, F2, G2, d2⟩ := d_fillBelow (d := d) (r := p.2.1) (c := p.2.2) (n := n) (hw _ hi) hg1 hd1 T1.2.1.1 T1.2.1.2.2 hp hc hn1 hn7
      have T2 : XT μ1 X μ2 (stg (chg σ) p.1 (pFill (σ.1.1 p.1) (cO [] (σ.1.1 p.1) (some p.2.1) p.2.2) p.2.1 p.2.2 (min n ((σ.1.1 p.1).length - 1 - p.2.1)))) 14 308 := by
        refine XR.one (k := 1) T1.2.1 h1 (by decide) F2 (fun a g => ?_) (fun a j g => ?_) ?_ (fun i hi hne h => by rcases (show i = 0 ∨ i = 1 ∨ i = 2 ∨ i = 3 ∨ i = 4 ∨ i = 5 ∨ i = 6 ∨ i = 7 ∨ i = 8 ∨ i = 9 ∨ i = 10 ∨ i = 11 ∨ i = 12 by omega) with rfl | rfl | rfl | rfl | rfl | rfl | rfl | rfl | rfl | rfl | rfl | rfl | rfl <;> first | exact absurd rfl hne | exact h)
        · unfold gA at g
          show X + 1 ≤ a ∧ a < X + 138; omega
        · unfold gA at g
          show X + 1 ≤ a ∧ a < X + 138; omega
        · -- the board, with new cells
          obtain ⟨h0, hs1, hs2, hs3, hs4, nc, hs5, hs6, hs7, hs8, hs9⟩ := h1.bb
          have hz := T1.2.1.2.2
          have GO : ∀ k, GV μ1 (X + 766) k → k + 6 ≤ gA X p.1 ∨ gA X p.1 + 6 ≤ k → GV μ2 (X + 766) k ∧ dG μ2 (xA k) = dG μ1 (xA k) := fun k hk hd => hk.outa T1.2.1.1 F2 (fun a _ g => ⟨by unfold gA at g; omega, by omega⟩) (fun a j _ g => ⟨by unfold gA at g; omega, by omega⟩)
          have A1 : AgR (X + 1) (X + 2) μ1 μ2 := F2.ag (by omega) (fun a q1 q2 g => by unfold gA at g; omega) (fun a j q1 q2 g => by unfold gA at g; omega)
          have A2 : AgR (X + 26) (X + 30) μ1 μ2 := F2.ag (by omega) (fun a q1 q2 g => by unfold gA at g; omega) (fun a j q1 q2 g => by unfold gA at g; omega)
          have e0 := A1 (X + 1) (by omega) (by omega)
          have e28 := A2 (X + 1 + 28) (by omega) (by omega)
          obtain ⟨rr1, rr2⟩ := RV.ag hs3.1 A2 (by omega) (by omega)
          refine ⟨h0, ?_, fun g hg => ?_, ⟨rr1, fun c hc => ?_⟩, fun i hi => (GO _ (hs4 i hi) (by unfold bG gA; omega)).1, nc, hs5, ?_, ?_, hs8, fun j hh hjh g hg => ?_⟩
          · unfold BS at hs1 ⊢
            simp only [e0.1, e0.2.2.2, e28.1, e28.2.1, e28.2.2.2]
            exact hs1
          · by_cases eg : g = p.1
            · subst eg
              refine ⟨G2, ?_⟩
              rw [stg_at]; exact d2
            · obtain ⟨a1, a2⟩ := GO (X + 1 + 1 + 6 * g) (hs2 g hg).1 (by unfold gA; omega)
              refine ⟨a1, (a2.trans (hs2 g hg).2).trans ?_⟩
              show σ.1.1 g = updf σ.1.1 p.1 _ g
              unfold updf
              rw [if_neg eg]
          · rw [rr2]; exact hs3.2 c hc
          · rw [e0.2.2.1]; exact hs6
          · rw [e0.2.2.1]; exact hs7
          · have hi : ((nc + 6 - 1 - j) % 6) * 3 + g < 18 := by
              have := Nat.mod_lt (nc + 6 - 1 - j) (show 0 < 6 by decide)
              omega
            rw [(GO _ (hs4 _ hi) (by unfold bG gA; omega)).2]
            exact hs9 j hh hjh g hg
      refine ⟨μ2, ?_, (T1.trans T2).up (by omega) (by omega)⟩
      simp only [N_lit, n10, if_false, gI12, gR12, pI12, pR12, rv12, gI3, gR3, pI3, pR3, rv3, aI_eq, aB_eq, aR_eq, sI_eq, sB_eq, sR_eq, Option.bind_some, Option.bind_none, if_true, if_false, true_or, or_true, false_or, or_false, true_and, and_true, false_and, and_false, decide_eq_true_eq, decide_true, decide_false, eq_self, not_true_eq_false, not_false_eq_true, jfit0, N_lit, N_add, N_mul, NEG_eq, pl_none, pl_some, rf_some, rf_none, jun_ref, jun_null, ir_ref, ir_null, jr_rf, jun_rf, Option.toList_some, Option.toList_none, List.nil_append, List.cons_append, k12, c1]
      rw [b26_28]
      simp only [gI12, gR12, pI12, pR12, rv12, gI3, gR3, pI3, pR3, rv3, aI_eq, aB_eq, aR_eq, sI_eq, sB_eq, sR_eq, Option.bind_some, Option.bind_none, if_true, if_false, true_or, or_true, false_or, or_false, true_and, and_true, false_and, and_false, decide_eq_true_eq, decide_true, decide_false, eq_self, not_true_eq_false, not_false_eq_true, jfit0, N_lit, N_add, N_mul, NEG_eq, pl_none, pl_some, rf_some, rf_none, jun_ref, jun_null, ir_ref, ir_null, jr_rf, jun_rf, Option.toList_some, Option.toList_none, List.nil_append, List.cons_append, j12, j0, h1.k3, t_gridAt h1 hi4]
      rw [b26_36 (hs0 := ir_ref)]
      simp only [gI6, gR6, pI6, pR6, rv6, aI_eq, aB_eq, aR_eq, sI_eq, sB_eq, sR_eq, Option.bind_some, Option.bind_none, if_true, if_false, true_or, or_true, false_or, or_false, true_and, and_true, false_and, and_false, decide_eq_true_eq, decide_true, decide_false, eq_self, not_true_eq_false, not_false_eq_true, jfit0, N_lit, N_add, N_mul, NEG_eq, pl_none, pl_some, rf_some, rf_none, jun_ref, jun_null, ir_ref, ir_null, jr_rf, jun_rf, Option.toList_some, Option.toList_none, List.nil_append, List.cons_append, h1.k6 hi4, c2, b26_43]
/-- what was read is a good formula -/
theorem pTx_FW {ky : Nat → Nat} (hky : ∀ v, ky v < 100) {ts : List T3} (hL : GTS ts) (h1 : (pTx ky ts).1 = true) (h2 : (pTx ky ts).2.2.1 = 2) : lv 2 (pTx ky ts).2.2.2.2 ∧ nst (pTx ky ts).2.2.2.2 ≤ 4 ∧ wsum (tks (pTx ky ts).2.2.2.2) ≤ 39 ∧ (pTx ky ts).2.2.2.1 = N 0 := by
  unfold pTx at h1 h2 ⊢
  by_cases c0 : hk ts = 0
  · rw [if_pos c0] at h2; cases h2
  · simp only [if_neg c0] at h1 h2 ⊢
    by_cases c61 : hk ts = 61
    · simp only [if_pos c61] at h1 h2 ⊢
      obtain ⟨a1, a2, a3, a4, a5⟩ := tlen_le hL c0
      obtain ⟨i1, i2, i3⟩ := pP_ok hky 200 2 0 (.natCast 0) ts.tail a1 (by decide) (fun g => by omega)
      rw [Bool.and_eq_true] at h1
      obtain ⟨j1, j2, j3, j4⟩ := i3 h1.1
      have j3 : hs ts.tail + wsum (tks (pP ky 200 2 0 (.natCast 0) ts.tail).2.2) ≤ hs (pP ky 200 2 0 (.natCast 0) ts.tail).2.1 + 0 := j3
      have := i1.hd.1
      exact ⟨j1, j2, by omega, trivial⟩
    · simp only [if_neg c61] at h2
      exfalso
      by_cases c45 : hk ts = 45
      · simp only [if_pos c45] at h2
        split at h2 <;> cases h2
      · simp only [if_neg c45] at h2
        split at h2 <;> cases h2
theorem pTx_kind {ky : Nat → Nat} {ts : List T3} : (pTx ky ts).2.2.1 ≤ 2 ∧ ((pTx ky ts).2.2.1 = 0 → (pTx ky ts).2.2.2.1 = N 0) := by
  unfold pTx
  by_cases c0 : hk ts = 0
  · rw [if_pos c0]; exact ⟨(show (0 : Nat) ≤ 2 by decide), fun _ => rfl⟩
  · rw [if_neg c0]
    by_cases c61 : hk ts = 61
    · rw [if_pos c61]; exact ⟨Nat.le_refl 2, fun _ => rfl⟩
    · rw [if_neg c61]
      by_cases c45 : hk ts = 45
      · rw [if_pos c45]
        split
        · exact ⟨(show (1 : Nat) ≤ 2 by decide), fun g => absurd (show (1 : Nat) = 0 from g) (by decide)⟩
        · exact ⟨(show (1 : Nat) ≤ 2 by decide), fun g => absurd (show (1 : Nat) = 0 from g) (by decide)⟩
      · rw [if_neg c45]
        split
        · exact ⟨(show (1 : Nat) ≤ 2 by decide), fun g => absurd (show (1 : Nat) = 0 from g) (by decide)⟩
        · exact ⟨(show (1 : Nat) ≤ 2 by decide), fun g => absurd (show (1 : Nat) = 0 from g) (by decide)⟩
theorem t_write (hb : BI μ X) (h : XR μ X σ) (hw : ∀ i, i < 3 → KK (σ.1.1 i)) : OP (d + 24) 14 [.ref X, .int g, .int x, .int y] μ X (o_write σ g x y) 5 164 := by
  obtain ⟨k12, r0, r1, r3, r4, -⟩ := h.s0
  unfold OP
  rw [jC_run (by decide)]
  show ∃ μ', jR (d + 24) 14 0 [.ref X, .int g, .int x, .int y, .retAddr 0, .retAddr 0] [] μ = _ ∧ _
  rw [b14_0]
  simp only [x_isInputCell h, gI12, gR12, pI12, pR12, rv12, aI_eq, aB_eq, aR_eq, sI_eq, sB_eq, sR_eq, Option.bind_some, Option.bind_none, if_true, if_false, true_or, or_true, false_or, or_false, true_and, and_true, false_and, and_false, decide_eq_true_eq, decide_true, decide_false, eq_self, not_true_eq_false, not_false_eq_true, jfit0, N_lit, N_add, N_mul, NEG_eq, pl_none, pl_some, rf_some, rf_none, jun_ref, jun_null, ir_ref, ir_null, jr_rf, jun_rf, Option.toList_some, Option.toList_none, List.nil_append, List.cons_append, k12]
  rw [b14_7]
  unfold o_write
  cases e : cix σ 3 g x y with
  | none =>
    refine ⟨μ, ?_, XT.refl hb h⟩
    simp only [Option.isSome_none, bN_false, N_lit, if_true]
  | some p =>
    obtain ⟨rfl, hi, rfl, hp, rfl, hc⟩ := cix_3 e h.len8
    have hi4 : p.1 < 4 := by omega
    have hl := h.l8 hi4
    obtain ⟨hj, ⟨B, hB, hx, hA⟩, hz⟩ := id hb
    obtain ⟨tq, tb, rq⟩ := h 3 (by decide)
    obtain ⟨hg, hdg⟩ := h.gg hi4
    have hky := kyG_lt (hw _ hi)
    have hGT := (gts_lexx 40 0 σ.2.2.1 (by have := tb.2.1; omega)).1
    have h41 := lexx_len 40 0 σ.2.2.1
    -- read
    obtain ⟨μ1, c1, F1, ⟨p1, l1, d1, z1⟩, ok1⟩ := x_read (d := d) (D := X + 766) (hw _ hi) hx hj (show B ≤ X + 275 by omega) tq tb rq hg hdg (by omega) (by unfold gA; omega)
    have c1 : jC (d + 23) 147 [.ref (X + 280), .ref (gA X p.1)] μ = some (some (.int (bN (pWr σ p.1).1)), μ1) := c1
    have d1 : (lexx 40 0 σ.2.2.1).drop p1 = (pWr σ p.1).2.1 := d1
    have ok1 : (pWr σ p.1).1 = true → jiv μ1 (X + 275 + 5) 2 = N (pWr σ p.1).2.2.1 ∧ jiv μ1 (X + 275 + 5) 3 = (pWr σ p.1).2.2.2.1 ∧ ((pWr σ p.1).2.2.1 = 2 → PT μ1 (X + 275) (tks (pWr σ p.1).2.2.2.2) (ords 0 (pWr σ p.1).2.2.2.2)) := ok1
    have hfw : (pWr σ p.1).1 = true → (pWr σ p.1).2.2.1 = 2 → lv 2 (pWr σ p.1).2.2.2.2 ∧ nst (pWr σ p.1).2.2.2.2 ≤ 4 ∧ wsum (tks (pWr σ p.1).2.2.2.2) ≤ 39 ∧ (pWr σ p.1).2.2.2.1 = N 0 := pTx_FW hky hGT
    have hkd : (pWr σ p.1).2.2.1 ≤ 2 ∧ ((pWr σ p.1).2.2.1 = 0 → (pWr σ p.1).2.2.2.1 = N 0) := pTx_kind
    dsimp only
    generalize pWr σ p.1 = P at *
    -- the tape cleared
    have Fc : Fx (fun a => a = X + 275) (fun _ _ => False) μ1 (jsetI μ1 (X + 275) 1 (N 0)) := by
      refine Fx.setI Fx.refl ?_
      exact (rfl : X + 275 = X + 275)
    have z2 : PZ (jsetI μ1 (X + 275) 1 (N 0)) (X + 275) (X + 766) (gA X p.1) (σ.1.1 p.1) (lexx 40 0 σ.2.2.1) p1 := z1.frx (Fc.mono (fun a g => Or.inl g) (fun _ _ g => g)) (by rw [← z1.at]; simp [iv_setI])
    have T2 : XT μ X (jsetI μ1 (X + 275) 1 (N 0)) (stp σ []) 0 0 := by
      have F12 : RF (X + 275) μ (jsetI μ1 (X + 275) 1 (N 0)) := F1.trans (Fc.mono (fun a g => by
        have g : a = X + 275 := g
        show X + 275 ≤ a ∧ a < X + 275 + 10; omega) (fun _ _ g => g.elim))
      refine XR.one (k := 3) hb h (by decide) (Fx.fa F12 hj) (fun a g => ?_) (fun a j g => ?_) ⟨z2.1, ⟨(show jiv (jsetI μ1 (X + 275) 1 (N 0)) (X + 275) 1 = N 0 by simp [iv_setI]), (show 0 ≤ 40 by decide), fun i c hi => by
        have hi : ([] : List Nat)[i]? = some c := hi
        simp at hi⟩, z2.2.1⟩ (fun i hi hne h => by rcases (show i = 0 ∨ i = 1 ∨ i = 2 ∨ i = 3 ∨ i = 4 ∨ i = 5 ∨ i = 6 ∨ i = 7 ∨ i = 8 ∨ i = 9 ∨ i = 10 ∨ i = 11 ∨ i = 12 by omega) with rfl | rfl | rfl | rfl | rfl | rfl | rfl | rfl | rfl | rfl | rfl | rfl | rfl <;> first | exact absurd rfl hne | exact h)
      · have g : X + 275 ≤ a ∧ a < X + 275 + 10 := g
        show X + 275 ≤ a ∧ a < X + 285; omega
      · have g : a = X + 275 + 5 ∧ j = 1 := g
        show X + 275 ≤ a ∧ a < X + 285; omega
    have iv2 : jiv (jsetI μ1 (X + 275) 1 (N 0)) (X + 275 + 5) = jiv μ1 (X + 275 + 5) := iv_setIn (by omega)
    have pt2 : ∀ T O, PT μ1 (X + 275) T O → PT (jsetI μ1 (X + 275) 1 (N 0)) (X + 275) T O := fun T O hT => by
      unfold PT at hT ⊢
      rw [iv2, iv_setIn (show ¬ X + 275 + 6 = X + 275 by omega), iv_setIn (show ¬ X + 275 + 7 = X + 275 by omega), iv_setIn (show ¬ X + 275 + 8 = X + 275 by omega), iv_setIn (show ¬ X + 275 + 9 = X + 275 by omega)]
      exact hT
    have k1_12 : jk μ1 X = 12 := by rw [F1.kk]; exact k12
    have k1_3 : jrv μ1 X 3 = some (X + 275) := by
      rw [F1.rv (by show ¬ (X = X + 275 + 5 ∧ 3 = 1); omega)]; exact r3
    have c144 : jC (d + 23) 144 [.ref (X + 275)] μ1 = some (none, jsetI μ1 (X + 275) 1 (N 0)) := by
      rw [jC_run (by decide)]
      show jR (d + 23) 144 0 [.ref (X + 275)] [] μ1 = _
      simp only [b144_0, gI10, gR10, pI10, pR10, rv10, aI_eq, aB_eq, aR_eq, sI_eq, sB_eq, sR_eq, Option.bind_some, Option.bind_none, if_true, if_false, true_or, or_true, false_or, or_false, true_and, and_true, false_and, and_false, decide_eq_true_eq, decide_true, decide_false, eq_self, not_true_eq_false, not_false_eq_true, jfit0, N_lit, N_add, N_mul, NEG_eq, pl_none, pl_some, rf_some, rf_none, jun_ref, jun_null, ir_ref, ir_null, jr_rf, jun_rf, Option.toList_some, Option.toList_none, List.nil_append, List.cons_append, z1.k0]
    have pre : ∀ R, jR (d + 24) 14 41 [.ref X, .int (N p.1), .int (N p.2.1), .int (N p.2.2), .ref (gA X p.1), .int (bN P.1)] [] (jsetI μ1 (X + 275) 1 (N 0)) = R → (if bN (some p).isSome = 0 then some (some (Value.int (-2)), μ) else (jgR μ 12 0 (.ref X)).bind fun w1 => if jrecv μ 3 w1 = true then (jC (d + 23) 69 [w1, .int (N p.1)] μ).bind fun p2 => jR (d + 24) 14 21 [.ref X, .int (N p.1), .int (N p.2.1), .int (N p.2.2), .retAddr 0, .retAddr 0] (p2.1.toList ++ []) p2.2 else none) = R := by
      intro R hR
      rw [← hR]
      simp only [Option.isSome_some, bN_true, N_lit, n10, if_false, gI12, gR12, pI12, pR12, rv12, gI3, gR3, pI3, pR3, rv3, aI_eq, aB_eq, aR_eq, sI_eq, sB_eq, sR_eq, Option.bind_some, Option.bind_none, if_true, if_false, true_or, or_true, false_or, or_false, true_and, and_true, false_and, and_false, decide_eq_true_eq, decide_true, decide_false, eq_self, not_true_eq_false, not_false_eq_true, jfit0, N_lit, N_add, N_mul, NEG_eq, pl_none, pl_some, rf_some, rf_none, jun_ref, jun_null, ir_ref, ir_null, jr_rf, jun_rf, Option.toList_some, Option.toList_none, List.nil_append, List.cons_append, k12, r0, h.k3, t_gridAt h hi4]
      rw [b14_21 (hs0 := ir_ref)]
      have k11 : jk μ (X + 280) = 11 := rq.1.1
      simp only [gI12, gR12, pI12, pR12, rv12, gI11, gR11, pI11, pR11, rv11, aI_eq, aB_eq, aR_eq, sI_eq, sB_eq, sR_eq, Option.bind_some, Option.bind_none, if_true, if_false, true_or, or_true, false_or, or_false, true_and, and_true, false_and, and_false, decide_eq_true_eq, decide_true, decide_false, eq_self, not_true_eq_false, not_false_eq_true, jfit0, N_lit, N_add, N_mul, NEG_eq, pl_none, pl_some, rf_some, rf_none, jun_ref, jun_null, ir_ref, ir_null, jr_rf, jun_rf, Option.toList_some, Option.toList_none, List.nil_append, List.cons_append, k12, r4, k11, c1]
      rw [b14_32 (h4 := ir_ref)]
      simp only [gI12, gR12, pI12, pR12, rv12, gI10, gR10, pI10, pR10, rv10, aI_eq, aB_eq, aR_eq, sI_eq, sB_eq, sR_eq, Option.bind_some, Option.bind_none, if_true, if_false, true_or, or_true, false_or, or_false, true_and, and_true, false_and, and_false, decide_eq_true_eq, decide_true, decide_false, eq_self, not_true_eq_false, not_false_eq_true, jfit0, N_lit, N_add, N_mul, NEG_eq, pl_none, pl_some, rf_some, rf_none, jun_ref, jun_null, ir_ref, ir_null, jr_rf, jun_rf, Option.toList_some, Option.toList_none, List.nil_append, List.cons_append, k1_12, k1_3, z1.k0, c144]
    generalize jsetI μ1 (X + 275) 1 (N 0) = μ2 at *
    have h2 := T2.2.2
    obtain ⟨j12, j0, j1, j3, j4, -⟩ := h2.s0
    have fin : ∀ (R : RES), (∃ μ', jR (d + 24) 14 41 [.ref X, .int (N p.1), .int (N p.2.1), .int (N p.2.2), .ref (gA X p.1), .int (bN P.1)] [] μ2 = some (some (.int R.1), μ') ∧ XT μ X μ' R.2 5 164) → ∃ μ', (if bN (some p).isSome = 0 then some (some (Value.int (-2)), μ) else (jgR μ 12 0 (.ref X)).bind fun w1 => if jrecv μ 3 w1 = true then (jC (d + 23) 69 [w1, .int (N p.1)] μ).bind fun p2 => jR (d + 24) 14 21 [.ref X, .int (N p.1), .int (N p.2.1), .int (N p.2.2), .retAddr 0, .retAddr 0] (p2.1.toList ++ []) p2.2 else none) = some (some (.int R.1), μ') ∧ XT μ X μ' R.2 5 164 := fun R ⟨μ', a1, a2⟩ => ⟨μ', pre _ a1, a2⟩
    refine fin _ ?_
    rw [b14_41 (h4 := ir_ref)]
    cases eP : P.1 with
    | false =>
      simp only [bN_false, N_lit, if_true, Bool.false_eq_true, if_false, gI12, gR12, pI12, pR12, rv12, gI10, gR10, pI10, pR10, rv10, aI_eq, aB_eq, aR_eq, sI_eq, sB_eq, sR_eq, Option.bind_some, Option.bind_none, if_true, if_false, true_or, or_true, false_or, or_false, true_and, and_true, false_and, and_false, decide_eq_true_eq, decide_true, decide_false, eq_self, not_true_eq_false, not_false_eq_true, jfit0, N_lit, N_add, N_mul, NEG_eq, pl_none, pl_some, rf_some, rf_none, jun_ref, jun_null, ir_ref, ir_null, jr_rf, jun_rf, Option.toList_some, Option.toList_none, List.nil_append, List.cons_append, j12, j3, z2.k0, x_start z2 l1 h41, d1, b14_55]
      exact ⟨μ2, rfl, T2.up (by omega) (by omega)⟩
    | true =>
      obtain ⟨o1, o2, o3⟩ := ok1 eP
      have hfw := hfw eP
      obtain ⟨μ3, c3, T3, A3⟩ := t_beginA (d := d + 20) T2.2.1 h2
      have h3 := T3.2.2
      obtain ⟨l12, l0, _, l3, l4, -⟩ := h3.s0
      have ag : ∀ i, i < 10 → jiv μ3 (X + 275 + i) = jiv μ2 (X + 275 + i) := fun i hi => (A3 (X + 275 + i) (by omega) (by omega)).2.2.1
      have rq3 := (h3 3 (by decide)).2.2
      have i2 : jiv μ3 (X + 275 + 5) 2 = N P.2.2.1 := by rw [ag 5 (by decide), iv2]; exact o1
      have i3 : jiv μ3 (X + 275 + 5) 3 = P.2.2.2.1 := by rw [ag 5 (by decide), iv2]; exact o2
      obtain ⟨hg3, hd3⟩ := h3.gg hi4
      have hd3 : dG μ3 (xA (gA X p.1)) = σ.1.1 p.1 := hd3
      have hz3 := T3.2.1.2.2
      -- the formula, if it is one
      have form : ∃ μ4 f, jC (d + 23) 159 [.ref (X + 280)] μ3 = some (some (va_rf f), μ4) ∧ Fa (fun _ => False) (fun _ _ => False) 5 164 μ3 μ4 ∧ cellOK μ4 (X + 766) (N P.2.2.1, P.2.2.2.1, f, N 0) ∧ dF μ4 f = if P.2.2.1 = 2 then (tks P.2.2.2.2).map tcan else [] := by
        by_cases e2 : P.2.2.1 = 2
        · obtain ⟨w1, w2, w3, w4⟩ := hfw e2
          have hT : PT μ3 (X + 275) (tks P.2.2.2.2) (ords 0 P.2.2.2.2) := by
            have := pt2 _ _ (o3 e2)
            unfold PT at this ⊢
            rw [ag 5 (by decide), ag 6 (by decide), ag 7 (by decide), ag 8 (by decide), ag 9 (by decide)]
            exact this
          have hl1 := len_tw (tks P.2.2.2.2)
          have hl1 : (tks P.2.2.2.2).length ≤ wsum (tks P.2.2.2.2) := hl1
          have hl2 := ords_len P.2.2.2.2 2 0 w1
          obtain ⟨μ4, f, q1, q2, q3, q4, q5, q6, q7⟩ := x_formula (d := d + 21) T3.2.1.1 rq3 (by rw [i2, e2]) hT (by omega) (by omega)
          refine ⟨μ4, some f, q1, q2, Or.inr (Or.inr ⟨by show N P.2.2.1 = N 2; rw [e2], w4, f, rfl, q5 _ hz3, ?_⟩), ?_⟩
          · rw [q6, q7]; exact ⟨P.2.2.2.2, w1, w2, rfl, rfl, w3⟩
          · rw [if_pos e2]
            show (ftk μ4 f).map tcan = _
            rw [q6]
        · have hk2 : P.2.2.1 < 2 := by have := hkd.1; omega
          refine ⟨μ3, none, x_noFormula (d := d + 22) rq3 i2 hk2, Fa.refl T3.2.1.1, ?_, by rw [if_neg e2]; rfl⟩
          rcases (show P.2.2.1 = 0 ∨ P.2.2.1 = 1 by omega) with e0 | e1
          · exact Or.inl ⟨by show N P.2.2.1 = N 0; rw [e0], hkd.2 e0, rfl⟩
          · exact Or.inr (Or.inl ⟨by show N P.2.2.1 = N 1; rw [e1], rfl⟩)
      obtain ⟨μ4, f, q1, q2, q3, q4⟩ := form
      have T4 := Fa.xt T3.2.1 h3 q2
      have h4 := T4.2.2
      obtain ⟨m12, m0, _, m3, m4, -⟩ := h4.s0
      obtain ⟨hg4, hd4⟩ := h4.gg hi4
      have hd4 : dG μ4 (xA (gA X p.1)) = σ.1.1 p.1 := hd4
      obtain ⟨μ5, s1, F5, G5, d5⟩ := d_setContent (d := d + 22) (p := some p.2.1) (c := p.2.2) hg4 (one_small (by omega)) hc q3
      have T5 := x_setG T4.2.1 h4 hi4 F5 G5 d5
      rw [hd4, q4] at T5
      have h5 := T5.2.2
      obtain ⟨n12, n0, _, n3, n4, -⟩ := h5.s0
      have k5 : jiv μ5 (X + 280) 2 = N P.2.2.1 := by
        have e1 : jiv μ5 (X + 280) = jiv μ4 (X + 280) := F5.iv (by show ¬ (gA X p.1 ≤ X + 280 ∧ X + 280 < gA X p.1 + 6); unfold gA; omega)
        have e2 : jiv μ4 (X + 280) = jiv μ3 (X + 280) := q2.iv (by omega) id
        rw [e1, e2]; exact i2
      have k3_11 : jk μ3 (X + 280) = 11 := rq3.1.1
      have k5_11 : jk μ5 (X + 280) = 11 := (h5 3 (by decide)).2.2.1.1
      simp only [pl_some] at s1
      refine ⟨μ5, ?_, ((T2.trans T3).trans (T4.trans T5)).up (by omega) (by omega)⟩
      simp only [bN_true, N_lit, n10, if_false, gI12, gR12, pI12, pR12, rv12, aI_eq, aB_eq, aR_eq, sI_eq, sB_eq, sR_eq, Option.bind_some, Option.bind_none, if_true, if_false, true_or, or_true, false_or, or_false, true_and, and_true, false_and, and_false, decide_eq_true_eq, decide_true, decide_false, eq_self, not_true_eq_false, not_false_eq_true, jfit0, N_lit, N_add, N_mul, NEG_eq, pl_none, pl_some, rf_some, rf_none, jun_ref, jun_null, ir_ref, ir_null, jr_rf, jun_rf, Option.toList_some, Option.toList_none, List.nil_append, List.cons_append, j12, c3]
      rw [b14_61 (h4 := ir_ref)]
      have i2' : jiv μ3 (X + 280) 2 = N P.2.2.1 := i2
      have i3' : jiv μ3 (X + 280) 3 = P.2.2.2.1 := i3
      simp only [gI12, gR12, pI12, pR12, rv12, gI11, gR11, pI11, pR11, rv11, aI_eq, aB_eq, aR_eq, sI_eq, sB_eq, sR_eq, Option.bind_some, Option.bind_none, if_true, if_false, true_or, or_true, false_or, or_false, true_and, and_true, false_and, and_false, decide_eq_true_eq, decide_true, decide_false, eq_self, not_true_eq_false, not_false_eq_true, jfit0, N_lit, N_add, N_mul, NEG_eq, pl_none, pl_some, rf_some, rf_none, jun_ref, jun_null, ir_ref, ir_null, jr_rf, jun_rf, Option.toList_some, Option.toList_none, List.nil_append, List.cons_append, l12, l4, k3_11, i2', i3', q1]
      rw [b14_86 (hs5 := jr_rf) (hs0 := ir_ref)]
      simp only [gI6, gR6, pI6, pR6, rv6, aI_eq, aB_eq, aR_eq, sI_eq, sB_eq, sR_eq, Option.bind_some, Option.bind_none, if_true, if_false, true_or, or_true, false_or, or_false, true_and, and_true, false_and, and_false, decide_eq_true_eq, decide_true, decide_false, eq_self, not_true_eq_false, not_false_eq_true, jfit0, N_lit, N_add, N_mul, NEG_eq, pl_none, pl_some, rf_some, rf_none, jun_ref, jun_null, ir_ref, ir_null, jr_rf, jun_rf, Option.toList_some, Option.toList_none, List.nil_append, List.cons_append, h4.k6 hi4, s1, b14_89, gI12, gR12, pI12, pR12, rv12, gI11, gR11, pI11, pR11, rv11, n12, n4, k5_11, k5]
end TOP
