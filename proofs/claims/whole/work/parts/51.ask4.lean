/-! ASKING: a cell; Asking.valueOf -/
section CELL
variable {μ μ' μ'' : jM} {q D g h d f b n k i j p c : Nat} {G : List (RW (List Tk))} {S : List Nat} {v x y : Int32} {r : VT}
/-- a formula, worked out whole -/
theorem x_workOut {e0 : Ex} {dp : Nat} (ha : AskOK G q D g k) (hz : KZ G) (hd : S.length = dp + 1) (hS : S.Nodup) (hS2 : ∀ s, s ∈ S → s < 24) (hk : S.length + k = 24) (hl : lv 2 e0) (hc : AC1 μ q D g G f e0) (hw : jiv μ q 1 = N 0) (hh : jiv μ q 5 = N h) (hn : h + (tks e0).length ≤ 39 * S.length) (hi : AI G μ q S) (nd : ∀ s, s ∈ S → Nd G (s / 3, s % 3) (fun n => evN G n e0)) : ∃ μ', jC (d + (4 * k + 5) + 3) 61 [.ref q, .ref f, .int (N dp)] μ = some (some (.int (tvE G e0).2), μ') ∧ PA G q S h (tvE G e0) μ μ' := by
  obtain ⟨μ1, z1, p1, p2⟩ := run_tree (d := d) (f := f) (dp := dp) (bt := N h) (e0 := e0) ha hz hd hS hS2 hk e0 2 0 0 [] [] [] [] μ h (.retAddr 0) hl hc (by simp) rfl (by simp) rfl hw hh hn hi nd
  have hc1 := hc.fr p1.1
  have hq1 := hc1.1.1
  have hz0 : (tvE G e0).1 ≠ N 0 → (tvE G e0).2 = N 0 := by
    have hx := lim_E (G := G) e0
    have key : ∀ (e : Ex), (tvE G e).1 ≠ N 0 → (tvE G e).2 = N 0 := by
      have hL : ∀ p c, (vlC G p c).1 ≠ N 0 → (vlC G p c).2 = N 0 := by
        intro p c
        have up : ∀ (w : Nat) (C : Nat → Nat → VR), (∀ p c r, C p c = some r → r.1 ≠ N 0 → r.2 = N 0) → ∀ (l : List (Nat × Nat)) (a : Option Int32) (r : VT), rfd w C l a = some r → r.1 ≠ N 0 → r.2 = N 0 := by
          intro w C hC l
          induction l with
          | nil => intro a r h g; cases h; exact absurd rfl g
          | cons q l ih =>
            intro a r h g
            unfold rfd sq at h
            rw [Option.bind_eq_some_iff] at h
            obtain ⟨t, h1, h2⟩ := h
            split at h2
            · exact ih _ _ h2 g
            · cases h2; rfl
        have upE : ∀ (L R : Nat → VR), (∀ i r, L i = some r → r.1 ≠ N 0 → r.2 = N 0) → (∀ i r, R i = some r → r.1 ≠ N 0 → r.2 = N 0) → ∀ (e : Ex) (r : VT), evE L R e = some r → r.1 ≠ N 0 → r.2 = N 0 := by
          intro L R hL hR e
          have two : ∀ (a b : Ex) (f : Int32 → Int32 → Int32), (∀ r : VT, evE L R b = some r → r.1 ≠ N 0 → r.2 = N 0) → ∀ r : VT, (sq (evE L R a) fun x => sq (evE L R b) fun y => some (N 0, f x y)) = some r → r.1 ≠ N 0 → r.2 = N 0 := by
            intro a b f _ r h g
            unfold sq at h
            rw [Option.bind_eq_some_iff] at h
            obtain ⟨t, h1, h2⟩ := h
            split at h2
            · rw [Option.bind_eq_some_iff] at h2
              obtain ⟨t', h3, h4⟩ := h2
              split at h4
              · cases h4; exact absurd rfl g
              · cases h4; rfl
            · cases h2; rfl
          induction e with
          | natCast v => intro r h g; cases h; exact absurd rfl g
          | var i => exact fun r h => hL i r h
          | num k => exact fun r h => hR _ r h
          | neg a ih =>
            intro r h g
            unfold evE sq at h
            rw [Option.bind_eq_some_iff] at h
            obtain ⟨t, h1, h2⟩ := h
            split at h2
            · cases h2; exact absurd rfl g
            · cases h2; rfl
          | pow a k ih => exact ih
          | add a b iha ihb => exact two a b _ ihb
          | sub a b iha ihb => exact two a b _ ihb
          | mul a b iha ihb => exact two a b _ ihb
          | intCast k => intro r h; cases h
        have evz : ∀ (n : Nat) (p c : Nat) (r : VT), evC G n p c = some r → r.1 ≠ N 0 → r.2 = N 0 := by
          intro n
          induction n with
          | zero => intro p c r h; simp [evC] at h
          | succ n ih =>
            intro p c r h g
            rw [evC] at h
            split at h
            · refine upE _ _ (fun i r h g => ?_) (fun i r h g => ?_) _ r h g
              · unfold evL at h
                split at h
                · cases h; rfl
                · exact ih _ _ r h g
              · unfold evR at h
                split at h
                · split at h
                  · cases h; exact absurd rfl g
                  · exact up _ _ ih _ _ r h g
                · cases h; rfl
            · cases h; exact absurd rfl g
        rcases (vlC_lim (G := G) (p := p) (c := c)).2 with ⟨n, hn⟩ | ⟨h1, -⟩
        · exact evz n p c _ (hn n (Nat.le_refl n))
        · intro _; rw [h1]
      have hF : ∀ (w : Nat) (l : List (Nat × Nat)) (a : Option Int32), (tfd G w l a).1 ≠ N 0 → (tfd G w l a).2 = N 0 := by
        intro w l
        induction l with
        | nil => intro a g; exact absurd rfl g
        | cons q l ih => intro a; exact sqt_z (fun v => ih _)
      intro e
      induction e with
      | natCast v => exact fun g => absurd rfl g
      | var i =>
        show (tL G i).1 ≠ N 0 → (tL G i).2 = N 0
        unfold tL
        split
        · exact fun _ => rfl
        · exact hL _ _
      | num k =>
        show (tR G k.toNat).1 ≠ N 0 → (tR G k.toNat).2 = N 0
        unfold tR
        split
        · split
          · exact fun g => absurd rfl g
          · exact hF _ _ _
        · exact fun _ => rfl
      | neg a ih => exact sqt_z (fun v g => absurd rfl g)
      | pow a k ih => exact ih
      | add a b iha ihb => exact sqt_z (fun v => sqt_z (fun w g => absurd rfl g))
      | sub a b iha ihb => exact sqt_z (fun v => sqt_z (fun w g => absurd rfl g))
      | mul a b iha ihb => exact sqt_z (fun v => sqt_z (fun w g => absurd rfl g))
      | intCast k => exact fun _ => rfl
    exact key e0
  rw [jC_run (by decide)]
  show ∃ μ', jR (d + (4 * k + 5) + 3) 61 0 [.ref q, .ref f, .int (N dp), .retAddr 0, .retAddr 0, .retAddr 0] [] μ = _ ∧ _
  simp only [b61_0, gI2, gR2, pI2, pR2, rv2, aI_eq, aB_eq, aR_eq, sI_eq, sB_eq, sR_eq, Option.bind_some, Option.bind_none, if_true, if_false, true_or, or_true, false_or, or_false, true_and, and_true, false_and, and_false, decide_eq_true_eq, decide_true, decide_false, eq_self, not_true_eq_false, not_false_eq_true, jfit0, N_lit, N_add, N_mul, NEG_eq, pl_none, pl_some, rf_some, rf_none, jun_ref, jun_null, ir_ref, ir_null, jr_rf, jun_rf, Option.toList_some, Option.toList_none, List.nil_append, List.cons_append, hc.1.1.1.1, hh]
  have hf1 := hc1.2.1
  have l0 : (ords 0 e0).length = jl μ1 (fa μ1 f 3) := by
    have := congrArg List.length hc1.2.2.2
    rw [List.length_map] at this
    rw [← this]; simp [ford]
  have h40 := hf1.2.2.2.2.2.2
  rcases p2 with ⟨e1, r1⟩ | ⟨i', e1, r1⟩
  · obtain ⟨m1, m2, m3⟩ := p1.2.2.2 e1
    have hp := x_pop (d := d + (4 * k + 5) + 2) hq1 m1 (by omega)
    refine ⟨jsetI (jsetI μ1 q 5 (N h)) q 5 (N h), ?_, AF.setI (AF.setI p1.1 (by omega)) (by omega), ?_, ?_, fun j hj => ?_, fun _ => m3.fr ?_ ?_⟩
    · rw [r1, Nat.zero_add, b61_8 (h1 := ir_ref)]
      simp only [gI2, gR2, pI2, pR2, rv2, gI5, gR5, pI5, pR5, rv5, aI_eq, aB_eq, aR_eq, sI_eq, sB_eq, sR_eq, Option.bind_some, Option.bind_none, if_true, if_false, true_or, or_true, false_or, or_false, true_and, and_true, false_and, and_false, decide_eq_true_eq, decide_true, decide_false, eq_self, not_true_eq_false, not_false_eq_true, jfit0, N_lit, N_add, N_mul, NEG_eq, pl_none, pl_some, rf_some, rf_none, jun_ref, jun_null, ir_ref, ir_null, jr_rf, jun_rf, Option.toList_some, Option.toList_none, List.nil_append, List.cons_append, ty_setI, ty_setR, ty_rowI, ty_rowR, jk_setI, jk_setR, jk_rowI, jk_rowR, jl_setI, jl_setR, jl_rowI, jl_rowR, sz_setI, sz_setR, sz_rowI, sz_rowR, ext_setI, ext_setR, iv_setI, iv_setR, iv_rowI, iv_rowR, rv_setI, rv_setR, rv_rowI, rv_rowR, iv_setIn, iv_rowIn, rv_setRn, rv_rowRn, iv_rowIe, rv_rowRe, hf1.1, hf1.r z4.2.2.2, alen_of (hf1.k z4.2.2.2) (by decide), l0, N_lt (show jl μ1 (fa μ1 f 3) < 2147483648 by omega) (show jl μ1 (fa μ1 f 3) < 2147483648 by omega), Nat.lt_irrefl, b61_63, hq1.1.1, p1.2.1, e1, m1, N_lt (show h < 2147483648 by omega) (show h + 1 < 2147483648 by omega), show h < h + 1 by omega, hp, b61_82, b61_86, m2]
    · simp only [ty_setI, ty_setR, ty_rowI, ty_rowR, jk_setI, jk_setR, jk_rowI, jk_rowR, jl_setI, jl_setR, jl_rowI, jl_rowR, sz_setI, sz_setR, sz_rowI, sz_rowR, ext_setI, ext_setR, iv_setI, iv_setR, iv_rowI, iv_rowR, rv_setI, rv_setR, rv_rowI, rv_rowR, iv_setIn, iv_rowIn, rv_setRn, rv_rowRn, iv_rowIe, rv_rowRe, show ¬ (1 : Nat) = 5 by decide, and_false, if_false]; exact p1.2.1
    · simp only [ty_setI, ty_setR, ty_rowI, ty_rowR, jk_setI, jk_setR, jk_rowI, jk_rowR, jl_setI, jl_setR, jl_rowI, jl_rowR, sz_setI, sz_setR, sz_rowI, sz_rowR, ext_setI, ext_setR, iv_setI, iv_setR, iv_rowI, iv_rowR, rv_setI, rv_setR, rv_rowI, rv_rowR, iv_setIn, iv_rowIn, rv_setRn, rv_rowRn, iv_rowIe, rv_rowRe, and_self, if_true]
    · simp only [ty_setI, ty_setR, ty_rowI, ty_rowR, jk_setI, jk_setR, jk_rowI, jk_rowR, jl_setI, jl_setR, jl_rowI, jl_rowR, sz_setI, sz_setR, sz_rowI, sz_rowR, ext_setI, ext_setR, iv_setI, iv_setR, iv_rowI, iv_rowR, rv_setI, rv_setR, rv_rowI, rv_rowR, iv_setIn, iv_rowIn, rv_setRn, rv_rowRn, iv_rowIe, rv_rowRe, show ¬ q + 3 = q by omega, false_and, if_false]; exact p1.2.2.1 j hj
    · simp only [ty_setI, ty_setR, ty_rowI, ty_rowR, jk_setI, jk_setR, jk_rowI, jk_rowR, jl_setI, jl_setR, jl_rowI, jl_rowR, sz_setI, sz_setR, sz_rowI, sz_rowR, ext_setI, ext_setR, iv_setI, iv_setR, iv_rowI, iv_rowR, rv_setI, rv_setR, rv_rowI, rv_rowR, iv_setIn, iv_rowIn, rv_setRn, rv_rowRn, iv_rowIe, rv_rowRe, show ¬ q + 1 = q by omega, not_false_eq_true]
    · simp only [ty_setI, ty_setR, ty_rowI, ty_rowR, jk_setI, jk_setR, jk_rowI, jk_rowR, jl_setI, jl_setR, jl_rowI, jl_rowR, sz_setI, sz_setR, sz_rowI, sz_rowR, ext_setI, ext_setR, iv_setI, iv_setR, iv_rowI, iv_rowR, rv_setI, rv_setR, rv_rowI, rv_rowR, iv_setIn, iv_rowIn, rv_setRn, rv_rowRn, iv_rowIe, rv_rowRe, show ¬ q + 2 = q by omega, not_false_eq_true]
  · refine ⟨jsetI μ1 q 5 (N h), ?_, AF.setI p1.1 (by omega), ?_, ?_, fun j hj => ?_, fun g => absurd g e1⟩
    · rw [r1]
      simp only [b61_63, b61_85, b61_86, gI2, gR2, pI2, pR2, rv2, aI_eq, aB_eq, aR_eq, sI_eq, sB_eq, sR_eq, Option.bind_some, Option.bind_none, if_true, if_false, true_or, or_true, false_or, or_false, true_and, and_true, false_and, and_false, decide_eq_true_eq, decide_true, decide_false, eq_self, not_true_eq_false, not_false_eq_true, jfit0, N_lit, N_add, N_mul, NEG_eq, pl_none, pl_some, rf_some, rf_none, jun_ref, jun_null, ir_ref, ir_null, jr_rf, jun_rf, Option.toList_some, Option.toList_none, List.nil_append, List.cons_append, hq1.1.1, p1.2.1, e1, hz0 e1]
    · simp only [ty_setI, ty_setR, ty_rowI, ty_rowR, jk_setI, jk_setR, jk_rowI, jk_rowR, jl_setI, jl_setR, jl_rowI, jl_rowR, sz_setI, sz_setR, sz_rowI, sz_rowR, ext_setI, ext_setR, iv_setI, iv_setR, iv_rowI, iv_rowR, rv_setI, rv_setR, rv_rowI, rv_rowR, iv_setIn, iv_rowIn, rv_setRn, rv_rowRn, iv_rowIe, rv_rowRe, show ¬ (1 : Nat) = 5 by decide, and_false, if_false]; exact p1.2.1
    · simp only [ty_setI, ty_setR, ty_rowI, ty_rowR, jk_setI, jk_setR, jk_rowI, jk_rowR, jl_setI, jl_setR, jl_rowI, jl_rowR, sz_setI, sz_setR, sz_rowI, sz_rowR, ext_setI, ext_setR, iv_setI, iv_setR, iv_rowI, iv_rowR, rv_setI, rv_setR, rv_rowI, rv_rowR, iv_setIn, iv_rowIn, rv_setRn, rv_rowRn, iv_rowIe, rv_rowRe, and_self, if_true]
    · simp only [ty_setI, ty_setR, ty_rowI, ty_rowR, jk_setI, jk_setR, jk_rowI, jk_rowR, jl_setI, jl_setR, jl_rowI, jl_rowR, sz_setI, sz_setR, sz_rowI, sz_rowR, ext_setI, ext_setR, iv_setI, iv_setR, iv_rowI, iv_rowR, rv_setI, rv_setR, rv_rowI, rv_rowR, iv_setIn, iv_rowIn, rv_setRn, rv_rowRn, iv_rowIe, rv_rowRe, show ¬ q + 3 = q by omega, false_and, if_false]; exact p1.2.2.1 j hj
theorem nd_pos (v : Nat) : 1 ≤ nd v := by
  unfold nd
  split
  · exact Nat.le_refl _
  · split
    · decide
    · split
      · decide
      · split
        · decide
        · split <;> decide
theorem tw_pos (t : Tk) : 1 ≤ tw t := by
  unfold tw
  split
  · exact nd_pos _
  · split
    · split <;> decide
    · split
      · decide
      · split
        · decide
        · split <;> decide
theorem len_tw : ∀ (T : List Tk), T.length ≤ (T.map tw).sum
  | [] => Nat.le_refl _
  | t :: T => by
    have h1 := len_tw T
    have h2 := tw_pos t
    simp only [List.length_cons, List.map_cons, List.sum_cons]
    omega
theorem raw_cell (hg : Gs μ g) (hp : p < vN μ (xA g)) (hc : c < 3) : cO none (rG μ (xA g)) (some p) c = (jiv μ (g + 2) (p * 3 + c), jiv μ (g + 3) (p * 3 + c), jrv μ (g + 4) (p * 3 + c), jiv μ (g + 5) (p * 3 + c)) := by
  unfold rG
  rw [cO_mkL hc]
  have e : cellO (vN μ (xA g)) (some p) c = some (p * 3 + c) := by
    unfold cellO
    rw [Option.bind_some, if_pos hp]
  rw [e]
  rfl
theorem ask_core (hz : KZ G) (ih : ∀ k', k = k' + 1 → AskOK G q D g k') : AskOK G q D g k := by
  intro d μ S h p c hx hS hS2 hk hw hh hn hi hp hc dep
  have hq := hx.1
  obtain ⟨⟨k0, k1, l1, k2, l2, k3, l3⟩, r1, r2, r3⟩ := hx.1
  have hG8 : vN μ (xA g) ≤ 8 := hx.2.2.1.2.2.1.2
  have hGl : G.length = vN μ (xA g) := by rw [← hx.2.2.2.1, len_dG]
  have hp1 : p < vN μ (xA g) := by omega
  have hgs := hx.2.2.1.2.1
  obtain ⟨⟨g0, -, -, -, -, g3, gl3, g4, gl4, -, -⟩, ⟨-, -, f3, f4, -⟩, -⟩ := hx.2.2.1.2.1
  have hdis := hx.2.2.2.2.2
  have bc : p * 3 + c < 2147483648 := by omega
  have bc24 : p * 3 + c < 24 := by omega
  have ec : ((p * 3 + c) / 3, (p * 3 + c) % 3) = (p, c) := by rw [show (p * 3 + c) / 3 = p by omega, show (p * 3 + c) % 3 = c by omega]
  have t0 : ∀ d', jC d' 88 [.ref g, .int (N p), .int (N c)] μ = some (some (.int (N (p * 3 + c))), μ) := by
    intro d'
    have t := x_cellAt (d := d') hgs hx.2.2.1.2.2.1 (N p) (N c)
    rw [show N p = pl (some p) from rfl, cellX_N hG8 (one_small (by omega)) hc] at t
    have e : cellO (vN μ (xA g)) (some p) c = some (p * 3 + c) := by
      unfold cellO
      rw [Option.bind_some, if_pos hp1]
    rw [e] at t
    exact t
  rw [jC_run (by decide)]
  show ∃ μ', jR (d + (4 * k + 5)) 60 0 [.ref q, .int (N p), .int (N c), .int (N S.length), .retAddr 0, .retAddr 0] [] μ = _ ∧ _
  have eD0 : d + (4 * k + 5) = d + (4 * k + 4) + 1 := rfl
  rw [eD0]
  simp only [b60_0, gI2, gR2, pI2, pR2, rv2, aI_eq, aB_eq, aR_eq, sI_eq, sB_eq, sR_eq, Option.bind_some, Option.bind_none, if_true, if_false, true_or, or_true, false_or, or_false, true_and, and_true, false_and, and_false, decide_eq_true_eq, decide_true, decide_false, eq_self, not_true_eq_false, not_false_eq_true, jfit0, N_lit, N_add, N_mul, NEG_eq, pl_none, pl_some, rf_some, rf_none, jun_ref, jun_null, ir_ref, ir_null, jr_rf, jun_rf, Option.toList_some, Option.toList_none, List.nil_append, List.cons_append, k0, hx.2.1, rv6, g0, t0]
  have hst := hi _ bc24
  by_cases hm : p * 3 + c ∈ S
  · have s1 : jiv μ (q + 1) (p * 3 + c) = N 1 := by
      rcases hst with ⟨a, -⟩ | ⟨-, a⟩ | ⟨-, a, -⟩
      · exact a
      · exact absurd hm a
      · exact absurd hm a
    have hr := (ec ▸ dep _ hm : Dp G (p, c) (p, c)).ring
    rw [show vlC G p c = (RI, N 0) from hr]
    refine ⟨jsetI μ q 1 RI, ?_, AF.setI AF.refl (by omega), ?_, ?_, fun j hj => ?_, fun g => absurd g ri_ne⟩
    · simp only [b60_9, b60_36, gI2, gR2, pI2, pR2, rv2, aI_eq, aB_eq, aR_eq, sI_eq, sB_eq, sR_eq, Option.bind_some, Option.bind_none, if_true, if_false, true_or, or_true, false_or, or_false, true_and, and_true, false_and, and_false, decide_eq_true_eq, decide_true, decide_false, eq_self, not_true_eq_false, not_false_eq_true, jfit0, N_lit, N_add, N_mul, NEG_eq, pl_none, pl_some, rf_some, rf_none, jun_ref, jun_null, ir_ref, ir_null, jr_rf, jun_rf, Option.toList_some, Option.toList_none, List.nil_append, List.cons_append, N_NEG bc, k0, r1, k1, l1, jinb_N bc, N_nat bc, bc24, s1]
    · simp only [ty_setI, ty_setR, ty_rowI, ty_rowR, jk_setI, jk_setR, jk_rowI, jk_rowR, jl_setI, jl_setR, jl_rowI, jl_rowR, sz_setI, sz_setR, sz_rowI, sz_rowR, ext_setI, ext_setR, iv_setI, iv_setR, iv_rowI, iv_rowR, rv_setI, rv_setR, rv_rowI, rv_rowR, iv_setIn, iv_rowIn, rv_setRn, rv_rowRn, iv_rowIe, rv_rowRe, and_self, if_true]
    · simp only [ty_setI, ty_setR, ty_rowI, ty_rowR, jk_setI, jk_setR, jk_rowI, jk_rowR, jl_setI, jl_setR, jl_rowI, jl_rowR, sz_setI, sz_setR, sz_rowI, sz_rowR, ext_setI, ext_setR, iv_setI, iv_setR, iv_rowI, iv_rowR, rv_setI, rv_setR, rv_rowI, rv_rowR, iv_setIn, iv_rowIn, rv_setRn, rv_rowRn, iv_rowIe, rv_rowRe, show ¬ (5 : Nat) = 1 by decide, and_false, if_false]; exact hh
    · simp only [ty_setI, ty_setR, ty_rowI, ty_rowR, jk_setI, jk_setR, jk_rowI, jk_rowR, jl_setI, jl_setR, jl_rowI, jl_rowR, sz_setI, sz_setR, sz_rowI, sz_rowR, ext_setI, ext_setR, iv_setI, iv_setR, iv_rowI, iv_rowR, rv_setI, rv_setR, rv_rowI, rv_rowR, iv_setIn, iv_rowIn, rv_setRn, rv_rowRn, iv_rowIe, rv_rowRe, show ¬ q + 3 = q by omega, false_and, if_false]
  · have hk0 : k ≠ 0 := by
      intro g
      have h1 := nodup_le 24 ((p * 3 + c) :: S) (List.nodup_cons.mpr ⟨hm, hS⟩) (fun s hs => by
        rcases List.mem_cons.mp hs with rfl | hs
        · exact bc24
        · exact hS2 s hs)
      rw [List.length_cons] at h1
      omega
    obtain ⟨k', rfl⟩ := Nat.exists_eq_succ_of_ne_zero hk0
    have hS24 : ¬ 24 < S.length := by omega
    have hS24' : (N 24 < N S.length) = False := by rw [N_lt (by decide) (by omega)]; exact eq_false hS24
    by_cases h2 : jiv μ (q + 1) (p * 3 + c) = N 2
    · have hv : vlC G p c = (N 0, jiv μ (q + 2) (p * 3 + c)) := by
        rcases hst with ⟨a, -⟩ | ⟨a, -⟩ | ⟨-, -, a⟩
        · rw [a] at h2; exact absurd h2 (by decide)
        · rw [a] at h2; exact absurd h2 (by decide)
        · simp only [Prod.mk.injEq] at ec; rw [ec.1, ec.2] at a; exact a
      rw [hv]
      refine ⟨μ, ?_, PA.refl hw hh hi⟩
      simp only [b60_9, b60_115, gI2, gR2, pI2, pR2, rv2, aI_eq, aB_eq, aR_eq, sI_eq, sB_eq, sR_eq, Option.bind_some, Option.bind_none, if_true, if_false, true_or, or_true, false_or, or_false, true_and, and_true, false_and, and_false, decide_eq_true_eq, decide_true, decide_false, eq_self, not_true_eq_false, not_false_eq_true, jfit0, N_lit, N_add, N_mul, NEG_eq, pl_none, pl_some, rf_some, rf_none, jun_ref, jun_null, ir_ref, ir_null, jr_rf, jun_rf, Option.toList_some, Option.toList_none, List.nil_append, List.cons_append, N_NEG bc, k0, r1, k1, l1, r2, k2, l2, jinb_N bc, N_nat bc, bc24, h2, show (N 2 = N 1) = False from N_ne (by decide) (by decide) (by decide), hS24']
    · have h0 : jiv μ (q + 1) (p * 3 + c) = N 0 := by
        rcases hst with ⟨-, a⟩ | ⟨a, -⟩ | ⟨a, -, -⟩
        · exact absurd a hm
        · exact a
        · exact absurd a h2
      have F6 : AF q μ (jsetI μ (q + 1) (p * 3 + c) (N 1)) := AF.setI AF.refl (by omega)
      have hi6 : AI G (jsetI μ (q + 1) (p * 3 + c) (N 1)) q ((p * 3 + c) :: S) := by
        intro c' hc'
        by_cases e : c' = p * 3 + c
        · refine Or.inl ⟨?_, by rw [e]; exact List.mem_cons_self⟩
          simp only [ty_setI, ty_setR, ty_rowI, ty_rowR, jk_setI, jk_setR, jk_rowI, jk_rowR, jl_setI, jl_setR, jl_rowI, jl_rowR, sz_setI, sz_setR, sz_rowI, sz_rowR, ext_setI, ext_setR, iv_setI, iv_setR, iv_rowI, iv_rowR, rv_setI, rv_setR, rv_rowI, rv_rowR, iv_setIn, iv_rowIn, rv_setRn, rv_rowRn, iv_rowIe, rv_rowRe, e, and_self, if_true]
        · have m1 : (c' ∈ (p * 3 + c) :: S) = (c' ∈ S) := by rw [List.mem_cons]; simp only [e, false_or]
          have e2 : jiv (jsetI μ (q + 1) (p * 3 + c) (N 1)) (q + 1) c' = jiv μ (q + 1) c' := by simp only [ty_setI, ty_setR, ty_rowI, ty_rowR, jk_setI, jk_setR, jk_rowI, jk_rowR, jl_setI, jl_setR, jl_rowI, jl_rowR, sz_setI, sz_setR, sz_rowI, sz_rowR, ext_setI, ext_setR, iv_setI, iv_setR, iv_rowI, iv_rowR, rv_setI, rv_setR, rv_rowI, rv_rowR, iv_setIn, iv_rowIn, rv_setRn, rv_rowRn, iv_rowIe, rv_rowRe, e, and_false, if_false]
          have e3 : jiv (jsetI μ (q + 1) (p * 3 + c) (N 1)) (q + 2) c' = jiv μ (q + 2) c' := by simp only [ty_setI, ty_setR, ty_rowI, ty_rowR, jk_setI, jk_setR, jk_rowI, jk_rowR, jl_setI, jl_setR, jl_rowI, jl_rowR, sz_setI, sz_setR, sz_rowI, sz_rowR, ext_setI, ext_setR, iv_setI, iv_setR, iv_rowI, iv_rowR, rv_setI, rv_setR, rv_rowI, rv_rowR, iv_setIn, iv_rowIn, rv_setRn, rv_rowRn, iv_rowIe, rv_rowRe, show ¬ q + 2 = q + 1 by omega, false_and, if_false]
          rw [e2, e3, m1]
          exact hi c' hc'
      -- what is known behind it
      have back : ∀ (μ1 : jM) (r : VT), AF q μ μ1 → jiv μ1 q 1 = r.1 → jiv μ1 q 5 = N h → (∀ j, j < h → jiv μ1 (q + 3) j = jiv μ (q + 3) j) → (r.1 = N 0 → AI G μ1 q ((p * 3 + c) :: S)) → r = vlC G p c → PA G q S h r μ (jsetI (jsetI μ1 (q + 2) (p * 3 + c) r.2) (q + 1) (p * 3 + c) (N 2)) := by
        intro μ1 r F e1 e5 es ea er
        refine ⟨AF.setI (AF.setI F (by omega)) (by omega), ?_, ?_, fun j hj => ?_, fun g => ?_⟩
        · simp only [ty_setI, ty_setR, ty_rowI, ty_rowR, jk_setI, jk_setR, jk_rowI, jk_rowR, jl_setI, jl_setR, jl_rowI, jl_rowR, sz_setI, sz_setR, sz_rowI, sz_rowR, ext_setI, ext_setR, iv_setI, iv_setR, iv_rowI, iv_rowR, rv_setI, rv_setR, rv_rowI, rv_rowR, iv_setIn, iv_rowIn, rv_setRn, rv_rowRn, iv_rowIe, rv_rowRe, show ¬ q = q + 1 by omega, show ¬ q = q + 2 by omega, false_and, if_false]; exact e1
        · simp only [ty_setI, ty_setR, ty_rowI, ty_rowR, jk_setI, jk_setR, jk_rowI, jk_rowR, jl_setI, jl_setR, jl_rowI, jl_rowR, sz_setI, sz_setR, sz_rowI, sz_rowR, ext_setI, ext_setR, iv_setI, iv_setR, iv_rowI, iv_rowR, rv_setI, rv_setR, rv_rowI, rv_rowR, iv_setIn, iv_rowIn, rv_setRn, rv_rowRn, iv_rowIe, rv_rowRe, show ¬ q = q + 1 by omega, show ¬ q = q + 2 by omega, false_and, if_false]; exact e5
        · simp only [ty_setI, ty_setR, ty_rowI, ty_rowR, jk_setI, jk_setR, jk_rowI, jk_rowR, jl_setI, jl_setR, jl_rowI, jl_rowR, sz_setI, sz_setR, sz_rowI, sz_rowR, ext_setI, ext_setR, iv_setI, iv_setR, iv_rowI, iv_rowR, rv_setI, rv_setR, rv_rowI, rv_rowR, iv_setIn, iv_rowIn, rv_setRn, rv_rowRn, iv_rowIe, rv_rowRe, show ¬ q + 3 = q + 1 by omega, show ¬ q + 3 = q + 2 by omega, false_and, if_false]; exact es j hj
        · intro c' hc'
          by_cases e : c' = p * 3 + c
          · refine Or.inr (Or.inr ⟨?_, by rw [e]; exact hm, ?_⟩)
            · simp only [ty_setI, ty_setR, ty_rowI, ty_rowR, jk_setI, jk_setR, jk_rowI, jk_rowR, jl_setI, jl_setR, jl_rowI, jl_rowR, sz_setI, sz_setR, sz_rowI, sz_rowR, ext_setI, ext_setR, iv_setI, iv_setR, iv_rowI, iv_rowR, rv_setI, rv_setR, rv_rowI, rv_rowR, iv_setIn, iv_rowIn, rv_setRn, rv_rowRn, iv_rowIe, rv_rowRe, e, and_self, if_true]
            · simp only [ty_setI, ty_setR, ty_rowI, ty_rowR, jk_setI, jk_setR, jk_rowI, jk_rowR, jl_setI, jl_setR, jl_rowI, jl_rowR, sz_setI, sz_setR, sz_rowI, sz_rowR, ext_setI, ext_setR, iv_setI, iv_setR, iv_rowI, iv_rowR, rv_setI, rv_setR, rv_rowI, rv_rowR, iv_setIn, iv_rowIn, rv_setRn, rv_rowRn, iv_rowIe, rv_rowRe, e, show ¬ q + 2 = q + 1 by omega, false_and, if_false, and_self, if_true]
              simp only [Prod.mk.injEq] at ec
              rw [ec.1, ec.2, ← er]
              exact Prod.ext g rfl
          · have m1 : (c' ∈ (p * 3 + c) :: S) = (c' ∈ S) := by rw [List.mem_cons]; simp only [e, false_or]
            have h3 := ea g c' hc'
            rw [m1] at h3
            simp only [ty_setI, ty_setR, ty_rowI, ty_rowR, jk_setI, jk_setR, jk_rowI, jk_rowR, jl_setI, jl_setR, jl_rowI, jl_rowR, sz_setI, sz_setR, sz_rowI, sz_rowR, ext_setI, ext_setR, iv_setI, iv_setR, iv_rowI, iv_rowR, rv_setI, rv_setR, rv_rowI, rv_rowR, iv_setIn, iv_rowIn, rv_setRn, rv_rowRn, iv_rowIe, rv_rowRe, e, and_false, if_false]
            exact h3
      have hcell := hx.2.2.1.cell (p := some p) (c := c)
      have hraw := raw_cell hgs hp1 hc
      have hdc : cO [] G (some p) c = rcm (dF μ) (cO none (rG μ (xA g)) (some p) c) := by rw [← hx.2.2.2.1]; exact cO_dG
      rw [hraw] at hcell hdc
      have n1 : ¬ q + 2 = q + 1 := by omega
      have n2 : ¬ g + 3 = q + 1 := by omega
      have n3 : ¬ q + 1 = q + 2 := by omega
      -- up to the branch
      have up : jR (d + (4 * (k' + 1) + 4) + 1) 60 9 [.ref q, .int (N p), .int (N c), .int (N S.length), .retAddr 0, .retAddr 0] [.int (N (p * 3 + c))] μ = (if jrv μ (g + 4) (p * 3 + c) = none then jR (d + (4 * (k' + 1) + 4) + 1) 60 106 [.ref q, .int (N p), .int (N c), .int (N S.length), .int (N (p * 3 + c)), va_rf (jrv μ (g + 4) (p * 3 + c))] [.int (jiv μ (g + 3) (p * 3 + c)), .int (N (p * 3 + c)), .ref (q + 2)] (jsetI μ (q + 1) (p * 3 + c) (N 1)) else (jC (d + (4 * (k' + 1) + 4)) 61 [.ref q, va_rf (jrv μ (g + 4) (p * 3 + c)), .int (N S.length)] (jsetI μ (q + 1) (p * 3 + c) (N 1))).bind fun p11 => jR (d + (4 * (k' + 1) + 4) + 1) 60 106 [.ref q, .int (N p), .int (N c), .int (N S.length), .int (N (p * 3 + c)), va_rf (jrv μ (g + 4) (p * 3 + c))] (p11.1.toList ++ [.int (N (p * 3 + c)), .ref (q + 2)]) p11.2) := by
        simp only [b60_9, gI2, gR2, pI2, pR2, rv2, gI6, gR6, pI6, pR6, rv6, aI_eq, aB_eq, aR_eq, sI_eq, sB_eq, sR_eq, Option.bind_some, Option.bind_none, if_true, if_false, true_or, or_true, false_or, or_false, true_and, and_true, false_and, and_false, decide_eq_true_eq, decide_true, decide_false, eq_self, not_true_eq_false, not_false_eq_true, jfit0, N_lit, N_add, N_mul, NEG_eq, pl_none, pl_some, rf_some, rf_none, jun_ref, jun_null, ir_ref, ir_null, jr_rf, jun_rf, Option.toList_some, Option.toList_none, List.nil_append, List.cons_append, ty_setI, ty_setR, ty_rowI, ty_rowR, jk_setI, jk_setR, jk_rowI, jk_rowR, jl_setI, jl_setR, jl_rowI, jl_rowR, sz_setI, sz_setR, sz_rowI, sz_rowR, ext_setI, ext_setR, iv_setI, iv_setR, iv_rowI, iv_rowR, rv_setI, rv_setR, rv_rowI, rv_rowR, iv_setIn, iv_rowIn, rv_setRn, rv_rowRn, iv_rowIe, rv_rowRe, N_NEG bc, k0, r1, k1, l1, r2, k2, l2, jinb_N bc, N_nat bc, bc24, h0, show (N 0 = N 1) = False from N_ne (by decide) (by decide) (by decide), show (N 0 = N 2) = False from N_ne (by decide) (by decide) (by decide), hS24', hx.2.1, g0, f4, g4, gl4, f3, g3, gl3, n2, show (30 : Nat) ≤ 30 ∧ 30 < 36 by decide]
      have fin : ∀ (μ1 : jM) (v : Int32) (u1 u2 u3 u5 : Value), AF q μ μ1 → jR (d + (4 * (k' + 1) + 4) + 1) 60 106 [.ref q, u1, u2, u3, .int (N (p * 3 + c)), u5] [.int v, .int (N (p * 3 + c)), .ref (q + 2)] μ1 = some (some (.int v), jsetI (jsetI μ1 (q + 2) (p * 3 + c) v) (q + 1) (p * 3 + c) (N 2)) := by
        intro μ1 v u1 u2 u3 u5 F
        simp only [b60_106, b60_115, gI2, gR2, pI2, pR2, rv2, aI_eq, aB_eq, aR_eq, sI_eq, sB_eq, sR_eq, Option.bind_some, Option.bind_none, if_true, if_false, true_or, or_true, false_or, or_false, true_and, and_true, false_and, and_false, decide_eq_true_eq, decide_true, decide_false, eq_self, not_true_eq_false, not_false_eq_true, jfit0, N_lit, N_add, N_mul, NEG_eq, pl_none, pl_some, rf_some, rf_none, jun_ref, jun_null, ir_ref, ir_null, jr_rf, jun_rf, Option.toList_some, Option.toList_none, List.nil_append, List.cons_append, ty_setI, ty_setR, ty_rowI, ty_rowR, jk_setI, jk_setR, jk_rowI, jk_rowR, jl_setI, jl_setR, jl_rowI, jl_rowR, sz_setI, sz_setR, sz_rowI, sz_rowR, ext_setI, ext_setR, iv_setI, iv_setR, iv_rowI, iv_rowR, rv_setI, rv_setR, rv_rowI, rv_rowR, iv_setIn, iv_rowIn, rv_setRn, rv_rowRn, iv_rowIe, rv_rowRe, F.kk, F.ll, F.rv, k0, r1, k1, l1, r2, k2, l2, jinb_N bc, N_nat bc, bc24, n1]
      rw [up]
      rcases hcell with ⟨c1, c2, c3⟩ | ⟨c1, c3⟩ | ⟨c1, c2, f, c3, c4, c5⟩
      · have c1 : jiv μ (g + 2) (p * 3 + c) = N 0 := c1
        have c3 : jrv μ (g + 4) (p * 3 + c) = none := c3
        have hv : vlC G p c = (N 0, jiv μ (g + 3) (p * 3 + c)) := by
          rw [vlC_eq, hdc]
          show (if jiv μ (g + 2) (p * 3 + c) = N 2 then _ else _) = _
          rw [c1, if_neg (by decide)]; rfl
        rw [if_pos c3, fin _ _ _ _ _ _ F6, hv]
        exact ⟨_, rfl, back _ (N 0, _) F6 (by simp only [ty_setI, ty_setR, ty_rowI, ty_rowR, jk_setI, jk_setR, jk_rowI, jk_rowR, jl_setI, jl_setR, jl_rowI, jl_rowR, sz_setI, sz_setR, sz_rowI, sz_rowR, ext_setI, ext_setR, iv_setI, iv_setR, iv_rowI, iv_rowR, rv_setI, rv_setR, rv_rowI, rv_rowR, iv_setIn, iv_rowIn, rv_setRn, rv_rowRn, iv_rowIe, rv_rowRe, show ¬ q = q + 1 by omega, false_and, if_false]; exact hw) (by simp only [ty_setI, ty_setR, ty_rowI, ty_rowR, jk_setI, jk_setR, jk_rowI, jk_rowR, jl_setI, jl_setR, jl_rowI, jl_rowR, sz_setI, sz_setR, sz_rowI, sz_rowR, ext_setI, ext_setR, iv_setI, iv_setR, iv_rowI, iv_rowR, rv_setI, rv_setR, rv_rowI, rv_rowR, iv_setIn, iv_rowIn, rv_setRn, rv_rowRn, iv_rowIe, rv_rowRe, show ¬ q = q + 1 by omega, false_and, if_false]; exact hh) (fun j hj => by simp only [ty_setI, ty_setR, ty_rowI, ty_rowR, jk_setI, jk_setR, jk_rowI, jk_rowR, jl_setI, jl_setR, jl_rowI, jl_rowR, sz_setI, sz_setR, sz_rowI, sz_rowR, ext_setI, ext_setR, iv_setI, iv_setR, iv_rowI, iv_rowR, rv_setI, rv_setR, rv_rowI, rv_rowR, iv_setIn, iv_rowIn, rv_setRn, rv_rowRn, iv_rowIe, rv_rowRe, show ¬ q + 3 = q + 1 by omega, false_and, if_false]) (fun _ => hi6) hv.symm⟩
      · have c1 : jiv μ (g + 2) (p * 3 + c) = N 1 := c1
        have c3 : jrv μ (g + 4) (p * 3 + c) = none := c3
        have hv : vlC G p c = (N 0, jiv μ (g + 3) (p * 3 + c)) := by
          rw [vlC_eq, hdc]
          show (if jiv μ (g + 2) (p * 3 + c) = N 2 then _ else _) = _
          rw [c1, if_neg (by decide)]; rfl
        rw [if_pos c3, fin _ _ _ _ _ _ F6, hv]
        exact ⟨_, rfl, back _ (N 0, _) F6 (by simp only [ty_setI, ty_setR, ty_rowI, ty_rowR, jk_setI, jk_setR, jk_rowI, jk_rowR, jl_setI, jl_setR, jl_rowI, jl_rowR, sz_setI, sz_setR, sz_rowI, sz_rowR, ext_setI, ext_setR, iv_setI, iv_setR, iv_rowI, iv_rowR, rv_setI, rv_setR, rv_rowI, rv_rowR, iv_setIn, iv_rowIn, rv_setRn, rv_rowRn, iv_rowIe, rv_rowRe, show ¬ q = q + 1 by omega, false_and, if_false]; exact hw) (by simp only [ty_setI, ty_setR, ty_rowI, ty_rowR, jk_setI, jk_setR, jk_rowI, jk_rowR, jl_setI, jl_setR, jl_rowI, jl_rowR, sz_setI, sz_setR, sz_rowI, sz_rowR, ext_setI, ext_setR, iv_setI, iv_setR, iv_rowI, iv_rowR, rv_setI, rv_setR, rv_rowI, rv_rowR, iv_setIn, iv_rowIn, rv_setRn, rv_rowRn, iv_rowIe, rv_rowRe, show ¬ q = q + 1 by omega, false_and, if_false]; exact hh) (fun j hj => by simp only [ty_setI, ty_setR, ty_rowI, ty_rowR, jk_setI, jk_setR, jk_rowI, jk_rowR, jl_setI, jl_setR, jl_rowI, jl_rowR, sz_setI, sz_setR, sz_rowI, sz_rowR, ext_setI, ext_setR, iv_setI, iv_setR, iv_rowI, iv_rowR, rv_setI, rv_setR, rv_rowI, rv_rowR, iv_setIn, iv_rowIn, rv_setRn, rv_rowRn, iv_rowIe, rv_rowRe, show ¬ q + 3 = q + 1 by omega, false_and, if_false]) (fun _ => hi6) hv.symm⟩
      · have c1 : jiv μ (g + 2) (p * 3 + c) = N 2 := c1
        have c3 : jrv μ (g + 4) (p * 3 + c) = some f := c3
        obtain ⟨e0, w1, w2, w3, w4, w5⟩ := c5
        have hT : (cO [] G (some p) c).1 = N 2 := by rw [hdc]; exact c1
        have hTk : tree (cO [] G (some p) c).2.2.1 = ecan e0 := by
          rw [hdc]
          show tree (dF μ (jrv μ (g + 4) (p * 3 + c))) = _
          rw [c3]
          show tree ((ftk μ f).map tcan) = _
          rw [w3, ← ((ecan_ok e0).1 2 w1).2]
          exact tree_tks ((ecan_ok e0).1 2 w1).1
        have hv : vlC G p c = tvE G e0 := by rw [vlC_eq, if_pos hT, hTk, tvE_can]
        have hc1 : AC1 (jsetI μ (q + 1) (p * 3 + c) (N 1)) q D g G f e0 := AC1.fr ⟨hx, c4, w3, w4⟩ F6
        have ndc : Nd G (p, c) (fun n => evN G n e0) := by
          have h5 := nd_E (G := G) (q := (p, c)) hT
          rw [hTk] at h5
          simp only [evN_can] at h5
          exact h5
        have hlen := len_tw (ftk μ f)
        rw [w3] at hlen w5
        obtain ⟨μ1, q1, q2⟩ := x_workOut (d := d) (k := k') (S := (p * 3 + c) :: S) (dp := S.length) (h := h) (ih k' rfl) hz rfl (List.nodup_cons.mpr ⟨hm, hS⟩) (fun s hs => by
            rcases List.mem_cons.mp hs with rfl | hs
            · exact bc24
            · exact hS2 s hs) (by rw [List.length_cons]; omega) w1 hc1 (by simp only [ty_setI, ty_setR, ty_rowI, ty_rowR, jk_setI, jk_setR, jk_rowI, jk_rowR, jl_setI, jl_setR, jl_rowI, jl_rowR, sz_setI, sz_setR, sz_rowI, sz_rowR, ext_setI, ext_setR, iv_setI, iv_setR, iv_rowI, iv_rowR, rv_setI, rv_setR, rv_rowI, rv_rowR, iv_setIn, iv_rowIn, rv_setRn, rv_rowRn, iv_rowIe, rv_rowRe, show ¬ q = q + 1 by omega, false_and, if_false]; exact hw) (by simp only [ty_setI, ty_setR, ty_rowI, ty_rowR, jk_setI, jk_setR, jk_rowI, jk_rowR, jl_setI, jl_setR, jl_rowI, jl_rowR, sz_setI, sz_setR, sz_rowI, sz_rowR, ext_setI, ext_setR, iv_setI, iv_setR, iv_rowI, iv_rowR, rv_setI, rv_setR, rv_rowI, rv_rowR, iv_setIn, iv_rowIn, rv_setRn, rv_rowRn, iv_rowIe, rv_rowRe, show ¬ q = q + 1 by omega, false_and, if_false]; exact hh) (by rw [List.length_cons]; omega) hi6 (fun s hs => by
            rcases List.mem_cons.mp hs with rfl | hs
            · rw [ec]; exact ndc
            · exact (dep s hs).nd ndc)
        have q1' : jC (d + (4 * (k' + 1) + 4)) 61 [.ref q, .ref f, .int (N S.length)] (jsetI μ (q + 1) (p * 3 + c) (N 1)) = some (some (.int (tvE G e0).2), μ1) := by
          rw [show d + (4 * (k' + 1) + 4) = d + (4 * k' + 5) + 3 by omega]; exact q1
        have F1 := F6.trans q2.1
        rw [c3, if_neg (by simp)]
        simp only [rf_some, q1', Option.bind_some, Option.toList_some, List.cons_append, List.nil_append]
        rw [fin _ _ _ _ _ _ F1, hv]
        refine ⟨_, rfl, back μ1 (tvE G e0) F1 q2.2.1 q2.2.2.1 (fun j hj => ?_) q2.2.2.2.2 hv.symm⟩
        rw [q2.2.2.2.1 j hj]
        simp only [ty_setI, ty_setR, ty_rowI, ty_rowR, jk_setI, jk_setR, jk_rowI, jk_rowR, jl_setI, jl_setR, jl_rowI, jl_rowR, sz_setI, sz_setR, sz_rowI, sz_rowR, ext_setI, ext_setR, iv_setI, iv_setR, iv_rowI, iv_rowR, rv_setI, rv_setR, rv_rowI, rv_rowR, iv_setIn, iv_rowIn, rv_setRn, rv_rowRn, iv_rowIe, rv_rowRe, show ¬ q + 3 = q + 1 by omega, false_and, if_false]
theorem ask_ok (hz : KZ G) : ∀ k, AskOK G q D g k := by
  intro k
  induction k with
  | zero => exact ask_core hz (fun k' e => absurd e (by omega))
  | succ k ih => exact ask_core hz (fun k' e => by obtain rfl : k = k' := by omega
                                                   exact ih)
/-- Asking.valueOf -/
theorem x_valueOf (hz : KZ (dG μ (xA g))) (hq : AQ μ q) (hg : GV μ D g) (hD : q + 4 ≤ D) (hd : g + 6 ≤ q ∨ q + 4 ≤ g) (hp : p < vN μ (xA g)) (hc : c < 3) : ∃ μ', jC (d + 102) 59 [.ref q, .ref g, .int (N p), .int (N c)] μ = some (some (.int (vlC (dG μ (xA g)) p c).2), μ') ∧ Fx (fun a => q ≤ a ∧ a < q + 4) (fun a j => a = q ∧ j = 0) μ μ' ∧ jiv μ' q 1 = (vlC (dG μ (xA g)) p c).1 ∧ AQ μ' q := by
  have F3 : Fx (fun a => q ≤ a ∧ a < q + 4) (fun a j => a = q ∧ j = 0) μ (jsetI (jsetI (jsetR μ q 0 (some g)) q 1 (N 0)) q 5 (N 0)) := by
    refine Fx.setI (Fx.setI (Fx.setR Fx.refl ?_) ?_) ?_
    · show q = q ∧ 0 = 0; exact ⟨rfl, rfl⟩
    · show q ≤ q ∧ q < q + 4; omega
    · show q ≤ q ∧ q < q + 4; omega
  obtain ⟨⟨k0, k1, l1, k2, l2, k3, l3⟩, r1, r2, r3⟩ := hq
  generalize hμ3 : jsetI (jsetI (jsetR μ q 0 (some g)) q 1 (N 0)) q 5 (N 0) = μ3 at F3
  obtain ⟨μ4, a1, a2, a3⟩ := x_fill (d := d + 101) (x := N 0) (μ := μ3) (a := q + 1) (by rw [F3.kk]; exact k1) (by rw [F3.ll, l1]; decide)
  have F4 : Fx (fun a => q ≤ a ∧ a < q + 4) (fun a j => a = q ∧ j = 0) μ μ4 := Fx.trans F3 ⟨a2.ext, a2.ty, a2.sz, a2.sl, fun b hb => a2.iv (fun e => hb (by rw [e]; omega)), fun b j _ => a2.rv id⟩
  have hq4 : AQ μ4 q := by
    unfold AQ
    rw [F4.kk, F4.ll, F4.rv (by omega), F4.rv (by omega), F4.rv (by omega)]
    exact ⟨⟨k0, k1, l1, k2, l2, k3, l3⟩, r1, r2, r3⟩
  obtain ⟨g1, g2⟩ := hg.outx F4 (fun a ha => ⟨by omega, by omega⟩) (fun a j ha => by omega)
  have hx4 : AX μ4 q D g (dG μ (xA g)) := ⟨hq4, by rw [a2.rv id, ← hμ3]; simp only [ty_setI, ty_setR, ty_rowI, ty_rowR, jk_setI, jk_setR, jk_rowI, jk_rowR, jl_setI, jl_setR, jl_rowI, jl_rowR, sz_setI, sz_setR, sz_rowI, sz_rowR, ext_setI, ext_setR, iv_setI, iv_setR, iv_rowI, iv_rowR, rv_setI, rv_setR, rv_rowI, rv_rowR, iv_setIn, iv_rowIn, rv_setRn, rv_rowRn, iv_rowIe, rv_rowRe, and_self, if_true], g1, g2, hD, hd⟩
  have w4 : jiv μ4 q 1 = N 0 := by
    rw [a2.iv (show ¬ q = q + 1 by omega), ← hμ3]
    simp only [ty_setI, ty_setR, ty_rowI, ty_rowR, jk_setI, jk_setR, jk_rowI, jk_rowR, jl_setI, jl_setR, jl_rowI, jl_rowR, sz_setI, sz_setR, sz_rowI, sz_rowR, ext_setI, ext_setR, iv_setI, iv_setR, iv_rowI, iv_rowR, rv_setI, rv_setR, rv_rowI, rv_rowR, iv_setIn, iv_rowIn, rv_setRn, rv_rowRn, iv_rowIe, rv_rowRe, show ¬ (1 : Nat) = 5 by decide, and_false, if_false, and_self, if_true]
  have h4 : jiv μ4 q 5 = N 0 := by
    rw [a2.iv (show ¬ q = q + 1 by omega), ← hμ3]
    simp only [ty_setI, ty_setR, ty_rowI, ty_rowR, jk_setI, jk_setR, jk_rowI, jk_rowR, jl_setI, jl_setR, jl_rowI, jl_rowR, sz_setI, sz_setR, sz_rowI, sz_rowR, ext_setI, ext_setR, iv_setI, iv_setR, iv_rowI, iv_rowR, rv_setI, rv_setR, rv_rowI, rv_rowR, iv_setIn, iv_rowIn, rv_setRn, rv_rowRn, iv_rowIe, rv_rowRe, and_self, if_true]
  have i4 : AI (dG μ (xA g)) μ4 q [] := by
    intro c' hc'
    refine Or.inr (Or.inl ⟨?_, by simp⟩)
    rw [a3, if_pos (by rw [F3.ll, l1]; exact hc')]
  obtain ⟨μ5, b1, b2⟩ := ask_ok (q := q) (D := D) (g := g) hz 24 d μ4 [] 0 p c hx4 List.nodup_nil (fun s hs => absurd hs (by simp)) rfl w4 h4 (Nat.zero_le _) i4 (by rw [len_dG]; exact hp) hc (fun s hs => absurd hs (by simp))
  have b1' : jC (d + 101) 60 [.ref q, .int (N p), .int (N c), .int (N 0)] μ4 = some (some (.int (vlC (dG μ (xA g)) p c).2), μ5) := b1
  refine ⟨μ5, ?_, Fx.trans F4 ⟨b2.1.ext, b2.1.ty, b2.1.sz, b2.1.sl, fun b hb => b2.1.2.2.2.2.1 b hb, fun b j _ => b2.1.rv b j⟩, b2.2.1, hq4.fr b2.1⟩
  rw [jC_run (by decide)]
  show jR (d + 102) 59 0 [.ref q, .ref g, .int (N p), .int (N c)] [] μ = _
  have k3' : jk μ3 q = 2 := by rw [F3.kk]; exact k0
  have r3' : jrv μ3 q 2 = some (q + 1) := by rw [F3.rv (by omega)]; exact r1
  simp only [b59_0, gI2, gR2, pI2, pR2, rv2, aI_eq, aB_eq, aR_eq, sI_eq, sB_eq, sR_eq, Option.bind_some, Option.bind_none, if_true, if_false, true_or, or_true, false_or, or_false, true_and, and_true, false_and, and_false, decide_eq_true_eq, decide_true, decide_false, eq_self, not_true_eq_false, not_false_eq_true, jfit0, N_lit, N_add, N_mul, NEG_eq, pl_none, pl_some, rf_some, rf_none, jun_ref, jun_null, ir_ref, ir_null, jr_rf, jun_rf, Option.toList_some, Option.toList_none, List.nil_append, List.cons_append, jk_setI, jk_setR, k0, hμ3, k3', r3', a1, b59_23, hq4.1.1, b1', b59_30]
end CELL
