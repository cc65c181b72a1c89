/-! THE REFERENCE's CALLS: what is unsettled; counts; the merge taken -/
section LAY
variable {μ μ' ν : jM} {S S' : Nat → Prop} {T T' : Nat → Nat → Prop} {M g h t s n w d D i j k x y a b c : Nat} {A B C : GA} {σ : SG}
theorem r_unsettled {l : List CL} (hq : QS μ M) (hl : MRc μ M l) : jC d 243 [.ref M] μ = some (some (.int (N (unsN l))), μ) := by
  obtain ⟨h80, h35, hv⟩ := hl
  have k13 := hq.k13
  have q40 : jrv μ M 40 = some (M + 408) := hq.2.1 40 408 rfl
  have k408 : jk μ (M + 408) = 21 ∧ jl μ (M + 408) = 80 := hq.kd (o := 408) (by decide) rfl
  have loop : ∀ m i, i + m = l.length → jR d 243 4 [.ref M, .int (N (unsN (l.take i))), .int (N i)] [] μ = some (some (.int (N (unsN l))), μ) := by
    intro m
    induction m with
    | zero =>
      intro i hi
      have : i = l.length := by omega
      subst this
      rw [b243_4]
      simp only [gI13, gR13, pI13, pR13, rv13, k13, if_true, Option.bind_some, h35]
      rw [if_neg (by rw [N_lt (by omega) (by omega)]; omega), List.take_length]
    | succ m ih =>
      intro i hi
      have hil : i < l.length := by omega
      have e : l[i]? = some l[i] := List.getElem?_eq_getElem hil
      obtain ⟨-, -, -, v4⟩ := hv i l[i] e
      have hb : jaB μ (.ref (M + 408)) (N i) = some l[i].2.2.2 := by
        rw [aB_eq, if_pos ⟨Or.inl k408.1, by rw [jinb_N (by omega), k408.2]; exact decide_eq_true (by omega)⟩, N_nat (by omega), v4]
      rw [b243_4]
      simp only [gI13, gR13, pI13, pR13, rv13, k13, if_true, Option.bind_some, h35]
      rw [if_pos (by rw [N_lt (by omega) (by omega)]; omega)]
      simp only [gI13, gR13, pI13, pR13, rv13, k13, if_true, Option.bind_some, q40, rf_some, hb]
      have tk : l.take (i + 1) = l.take i ++ [l[i]] := (List.take_append_getElem hil).symm
      have ihi := ih (i + 1) (by omega)
      rw [tk] at ihi
      unfold unsN at ihi ⊢
      rw [List.countP_append] at ihi
      by_cases ez : l[i].2.2.2 = 0
      · rw [if_pos ez, b243_24]
        simp only [N_lit, N_add]
        have : List.countP (fun c : CL => c.2.2.2 == N 0) [l[i]] = 1 := by
          have e : (l[i].2.2.2 == N 0) = true := by rw [ez]; rfl
          simp [List.countP_cons, e]
        rw [this] at ihi
        exact ihi
      · rw [if_neg ez, b243_24]
        simp only [N_lit, N_add]
        have : List.countP (fun c : CL => c.2.2.2 == N 0) [l[i]] = 0 := by
          have e : (l[i].2.2.2 == N 0) = false := by
            rw [beq_eq_false_iff_ne]; exact ez
          simp [List.countP_cons, e]
        rw [this, Nat.add_zero] at ihi
        exact ihi
  rw [jC_run (by decide)]
  show jR d 243 0 [.ref M, .retAddr 0, .retAddr 0] [] μ = _
  rw [b243_0]
  exact loop l.length 0 (by omega)
theorem p_count (h : MR μ M σ) (w : Int32) : ROP M (jC (d + 2) 261 [.ref M, .int w] μ) μ (o_count σ w) := by
  obtain ⟨hq, hA, hg, hr, hu, hi, ht, hc, hm, hs⟩ := id h
  have st : jC (d + 2) 261 [.ref M, .int w] μ = jR (d + 2) 261 7 [.ref M, .int w] [.int (okI (ix 8 w))] μ := by
    rw [jC_run (by decide)]
    show jR (d + 2) 261 0 [.ref M, .int w] [] μ = _
    rw [b261_0, show (jC (d + 1) 165 [.int w, .int 0, .int 7] μ) = some (some (.int (okI (ix 8 w))), μ) from r_in (n := 8) (by decide) w]
    rfl
  rw [st, b261_7]
  unfold o_count
  cases ew : ix 8 w with
  | none =>
    rw [if_pos (by rw [okI_0])]
    exact ⟨μ, rfl, FR.refl, h⟩
  | some w0 =>
    obtain ⟨rfl, hw⟩ := ix_some (by decide) ew
    rw [if_neg (by rw [okI_0]; simp)]
    have k13 := hq.k13
    have fin : ∀ v : Nat, jR (d + 2) 261 68 [.ref M, .int (N w0)] [.int (N v)] μ = some (some (.int (N v)), μ) := fun v => b261_68 ..
    have lt4 : N w0 < (4 : Int32) ↔ w0 < 4 := by show N w0 < N 4 ↔ _; rw [N_lt (by omega) (by decide)]
    have eq4 : N w0 = (4 : Int32) ↔ w0 = 4 := by show N w0 = N 4 ↔ _; rw [N_inj (by omega) (by decide)]
    have eq5 : N w0 = (5 : Int32) ↔ w0 = 5 := by show N w0 = N 5 ↔ _; rw [N_inj (by omega) (by decide)]
    have eq6 : N w0 = (6 : Int32) ↔ w0 = 6 := by show N w0 = N 6 ↔ _; rw [N_inj (by omega) (by decide)]
    show ROP M _ μ (N (if w0 < 4 then (σ.1.1 w0).length else if w0 = 4 then σ.2.2.2.1.length else if w0 = 5 then unsN σ.2.2.2.1 else if w0 = 6 then σ.1.2.2.length else σ.2.2.1.length), σ)
    by_cases h4 : w0 < 4
    · rw [if_pos h4, if_pos (lt4.mpr h4)]
      have ro := hq.ro h4
      obtain ⟨G1, G2, G3, G4, G5⟩ := h.gq h4
      rw [G1.2.1, ← G4] at ro
      simp only [gI13, gR13, pI13, pR13, rv13, k13, if_true, Option.bind_some, hq.f.1, rf_some, ro, fin]
      exact ⟨μ, rfl, FR.refl, h⟩
    · rw [if_neg h4, if_neg (fun q => h4 (lt4.mp q))]
      by_cases e4 : w0 = 4
      · rw [if_pos e4, if_pos (eq4.mpr e4)]
        simp only [gI13, gR13, pI13, pR13, rv13, k13, if_true, Option.bind_some, hc.2.1, fin]
        exact ⟨μ, rfl, FR.refl, h⟩
      · rw [if_neg e4, if_neg (fun q => e4 (eq4.mp q))]
        by_cases e5 : w0 = 5
        · rw [if_pos e5, if_pos (eq5.mpr e5)]
          simp only [gI13, gR13, pI13, pR13, rv13, Option.bind_some, Option.bind_none, if_true, if_false, true_or, or_true, false_or, or_false, true_and, and_true, false_and, and_false, decide_eq_true_eq, decide_true, decide_false, eq_self, not_true_eq_false, not_false_eq_true, jfit0, N_lit, N_add, N_mul, NEG_eq, pl_none, pl_some, rf_some, rf_none, jun_ref, jun_null, ir_ref, ir_null, jr_rf, jun_rf, Option.toList_some, Option.toList_none, List.nil_append, List.cons_append, k13, r_unsettled hq hc]
          rw [b261_48, fin]
          exact ⟨μ, rfl, FR.refl, h⟩
        · rw [if_neg e5, if_neg (fun q => e5 (eq5.mp q))]
          by_cases e6 : w0 = 6
          · rw [if_pos e6, if_pos (eq6.mpr e6)]
            simp only [gI13, gR13, pI13, pR13, rv13, k13, if_true, Option.bind_some, hu.2.1, fin]
            exact ⟨μ, rfl, FR.refl, h⟩
          · rw [if_neg e6, if_neg (fun q => e6 (eq6.mp q))]
            simp only [gI13, gR13, pI13, pR13, rv13, k13, if_true, Option.bind_some, ht.2.1, fin]
            exact ⟨μ, rfl, FR.refl, h⟩
/-- a copy of the merge -/
theorem tk_step (h : MR μ M σ) (hg : g < 3) : ∃ μ', jR (d + 3) 244 23 [.ref M, .int (N g)] [] μ = jR (d + 3) 244 23 [.ref M, .int (N (g + 1))] [] μ' ∧ FR M μ μ' ∧ MR μ' M (stg σ g (σ.1.1 3)) := by
  have hg4 : g < 4 := by omega
  obtain ⟨H1, H2, H3, H4, H5⟩ := h.gq hg4
  obtain ⟨K1, K2, K3, K4, K5⟩ := h.gq (g := 3) (by decide)
  obtain ⟨μ2, c2, F2, H6, e2⟩ := r_copyGrid (d := d) h.1 K1 H1 (by omega)
  have h2 := h.grid hg4 F2 H6 e2 K3
  rw [← K2] at h2
  refine ⟨μ2, ?_, F2.fr hg4, h2⟩
  rw [b244_23, if_pos (by show N g < N 3; rw [N_lt (by omega) (by decide)]; exact hg)]
  simp only [gI13, gR13, pI13, pR13, rv13, Option.bind_some, Option.bind_none, if_true, if_false, true_or, or_true, false_or, or_false, true_and, and_true, false_and, and_false, decide_eq_true_eq, decide_true, decide_false, eq_self, not_true_eq_false, not_false_eq_true, jfit0, N_lit, N_add, N_mul, NEG_eq, pl_none, pl_some, rf_some, rf_none, jun_ref, jun_null, ir_ref, ir_null, jr_rf, jun_rf, Option.toList_some, Option.toList_none, List.nil_append, List.cons_append, h.1.k13, c2]
  rw [b244_34]
  simp only [N_lit, N_add]
theorem p_take (h : MR μ M σ) : ROP M (jC (d + 3) 244 [.ref M] μ) μ (o_take σ) := by
  obtain ⟨hq, hA, hg, hr, hu, hi, ht, hc, hm, hs⟩ := id h
  have k13 := hq.k13
  have bad : ∀ u, jR (d + 3) 244 14 [.ref M, u] [] μ = some (some (.int aSTATE), μ) := fun u => b244_14 ..
  have n48 := hc.1
  have hus : unsN σ.2.2.2.1 ≤ 80 := Nat.le_trans List.countP_le_length n48
  have st : jC (d + 3) 244 [.ref M] μ = jR (d + 3) 244 0 [.ref M, .retAddr 0] [] μ := by
    rw [jC_run (by decide)]
    rfl
  have hm : jiv μ M 36 = if σ.2.2.2.2.1 = true then N 1 else N 0 := hm
  rw [st, b244_0]
  simp only [gI13, gR13, pI13, pR13, rv13, k13, if_true, Option.bind_some, jun_ref, r_unsettled hq hc]
  unfold o_take
  by_cases em : σ.2.2.2.2.1 = true
  · rw [if_pos em] at hm
    rw [if_neg (show ¬ jiv μ M 36 = 0 by rw [hm]; decide)]
    show ROP M (jR (d + 3) 244 11 [.ref M, .retAddr 0] [.int (N (unsN σ.2.2.2.1))] μ) μ _
    rw [b244_11]
    by_cases eu : unsN σ.2.2.2.1 = 0
    · rw [if_pos (show σ.2.2.2.2.1 = true ∧ unsN σ.2.2.2.1 = 0 from ⟨em, eu⟩), if_neg (show ¬ (0 : Int32) < N (unsN σ.2.2.2.1) by rw [eu]; decide)]
      obtain ⟨μ1, c1, F1, h1⟩ := h.chg (d := d)
      obtain ⟨μ2, c2, F2, h2⟩ := tk_step (d := d) (g := 0) h1 (by decide)
      obtain ⟨μ3, c3, F3, h3⟩ := tk_step (d := d) (g := 1) h2 (by decide)
      obtain ⟨μ4, c4, F4, h4⟩ := tk_step (d := d) (g := 2) h3 (by decide)
      have c2 : jR (d + 3) 244 23 [.ref M, .int 0] [] μ1 = jR (d + 3) 244 23 [.ref M, .int (N (0 + 1))] [] μ2 := c2
      have ro := h4.1.ro (g := 3) (by decide)
      obtain ⟨G1, G2, G3, G4, G5⟩ := h4.gq (g := 3) (by decide)
      have e3 : vN μ4 (mA M 3) = (σ.1.1 3).length := G4.symm
      rw [G1.2.1, e3] at ro
      have ro : jaI μ4 (.ref (M + 1)) 3 = some (N (σ.1.1 3).length) := ro
      simp only [gI13, gR13, pI13, pR13, rv13, k13, if_true, Option.bind_some, jun_ref, c1]
      show ROP M (jR (d + 3) 244 21 [.ref M, .retAddr 0] [] μ1) μ _
      rw [b244_21, c2, c3, c4, b244_23, if_neg (by decide)]
      simp only [gI13, gR13, pI13, pR13, rv13, h4.1.k13, h4.1.f.1, if_true, Option.bind_some, rf_some, ro]
      exact ⟨μ4, rfl, F1.fr.trans (F2.trans (F3.trans F4)), h4⟩
    · rw [if_neg (show ¬ (σ.2.2.2.2.1 = true ∧ unsN σ.2.2.2.1 = 0) from fun q => eu q.2), if_pos (show (0 : Int32) < N (unsN σ.2.2.2.1) by show N 0 < N _; rw [N_lt (by decide) (by omega)]; omega)]
      exact ⟨μ, bad _, FR.refl, h⟩
  · rw [if_neg em] at hm
    rw [if_pos (show jiv μ M 36 = 0 from hm), if_neg (fun q => em q.1)]
    exact ⟨μ, bad _, FR.refl, h⟩
end LAY
