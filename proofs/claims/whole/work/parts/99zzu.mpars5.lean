/-! THE REFERENCE's READER: one, part, sum -/
def RM (M B : Nat) (bs : List Nat) (G : DG) (n u : Nat) : Prop := ∀ (dd k w : Nat) (ts : List T3) (T : List (Int32 × Int32)) (e : Ex) (μ : jM), 4 * k + 12 + u ≤ dd → 4 * ts.length + 1 + u ≤ n → k + w = 4 → RD μ M B bs ts w T → RG' μ M G → ∃ μ', jC dd (182 - u) [.ref M] μ = some (none, μ') ∧ RE M B bs w μ μ' (pP (kyG G) n u w e ts).1 (pP (kyG G) n u w e ts).2.1 (T ++ encE (pP (kyG G) n u w e ts).2.2)
def RLp (M B : Nat) (bs : List Nat) (G : DG) (n u : Nat) : Prop := ∀ (dd k w : Nat) (ts : List T3) (T : List (Int32 × Int32)) (e : Ex) (μ : jM), 4 * k + 12 + (u - 2) ≤ dd → 4 * ts.length + (u - 2) ≤ n → k + w = 4 → RD μ M B bs ts w (T ++ encE e) → RG' μ M G → ∃ μ', jR dd (184 - u) 4 [.ref M] [] μ = some (none, μ') ∧ RE M B bs w μ μ' (pP (kyG G) n u w e ts).1 (pP (kyG G) n u w e ts).2.1 (T ++ encE (pP (kyG G) n u w e ts).2.2)
section LEX
variable {μ μ' μ'' : jM} {M B d i j k a t c n w w' b : Nat} {bs r A R s ds ws l : List Nat} {v x y : Int32} {ts ts' : List T3} {T : List (Int32 × Int32)} {ok : Bool} {G : DG} {e : Ex}
theorem pP_len (hK : KK G) (hg : GTS ts) (hw : w ≤ 4) {u : Nat} (hu : u < 3) : (pP (kyG G) n u w e ts).2.1.length ≤ ts.length := (pP_ok (kyG_lt hK) n u w e ts hg hw (fun h => absurd h (by omega))).2.1.length_le
theorem bnot {q : Bool} (h : ¬ q = true) : q = false := by
  cases q with
  | true => exact absurd rfl h
  | false => rfl
theorem rm_one (hK : KK G) (i0 : RM M B bs G n 0) (i2 : RM M B bs G n 2) : RM M B bs G (n + 1) 0 := by
  intro dd k w ts T e μ hd hn hk4 h hR
  obtain ⟨d, rfl⟩ : ∃ d, dd = d + 12 := ⟨dd - 12, by omega⟩
  have k13 := h.1.1.k13
  have ed : N (w + 1) - 1 = N w := by rw [show (1 : Int32) = N 1 from rfl, N_sub (by omega)]; rfl
  have st : jC (d + 12) 182 [.ref M] μ = jR (d + 12) 182 0 [.ref M] [] μ := by rw [jC_run (by decide)]; rfl
  show ∃ μ', jC (d + 12) 182 [.ref M] μ = some (none, μ') ∧ _
  rw [st, b182_0]
  simp only [gI13, gR13, pI13, pR13, rv13, k13, if_true, Option.bind_some]
  unfold pP
  by_cases u1 : hk ts = 1
  · have f : RW' μ M (hs ts) := by
      rcases h.1.2.1 with ⟨h8, ⟨h1, h2⟩ | ⟨h1, h2, -⟩⟩
      · exact ⟨h2, h8⟩
      · rcases h2 with ⟨k1, k2⟩ | ⟨k1, k2, k3⟩ | ⟨k1, k2, k3⟩ | ⟨k1, k2, k3⟩ | ⟨k1, k2, k3⟩
        · rw [u1] at k1; exact absurd k1 (by decide)
        · rw [u1] at k1; exact absurd k1 (by decide)
        · rw [u1] at k1; exact absurd k1 (by decide)
        · rw [u1] at k1; exact absurd k1 (by decide)
        · rw [u1] at k1; exact absurd k1 (by decide)
    have pr : pRef (kyG G) ts = (false, ts, 0) := by
      rw [pRef_pr]
      unfold pr1
      rw [u1]
      rfl
    rw [f.1, if_neg (show ¬ N 1 = 0 by decide), u1, if_neg (show ¬ 1 = 48 by decide), if_neg (show ¬ 1 = 45 by decide), if_neg (show ¬ 1 = 40 by decide), if_neg (show ¬ (1 = 116 ∨ 1 = 109 ∨ 1 = 108 ∨ 1 = 110) by decide), pr]
    exact ⟨μ, rfl, RE.no PX.refl f⟩
  · obtain ⟨f1, f2, -⟩ := h.1.2.1.fit u1
    have hl := h.2.2
    rw [f1, if_pos (show N 0 = 0 from rfl)]
    by_cases e48 : hk ts = 48
    · have q1 : jiv μ M 19 = N 1 ∧ jiv μ M 20 = N (hf ts) := by
        rcases f2 with ⟨k1, k2⟩ | ⟨k1, k2, k3⟩ | ⟨k1, k2, k3⟩ | ⟨k1, k2, k3⟩ | ⟨k1, k2, k3⟩
        · rw [e48] at k1; exact absurd k1 (by decide)
        · exact ⟨k2, k3⟩
        · rw [e48] at k1; exact absurd k1 (by decide)
        · rw [e48] at k1; exact absurd k1 (by decide)
        · rw [e48] at k1; exact absurd k1 (by decide)
      obtain ⟨μ1, μ2, c1, k1, c2, F2, r2⟩ := rd_take (d := d + 11) (k := d + 5) (x := N 0) (y := N (hf ts)) h u1 (by rw [e48]; decide)
      have c1 : jC (d + 11) 183 [.ref M, .int 0, .int (N (hf ts))] μ = some (none, μ1) := c1
      rw [if_pos e48, q1.1, if_pos (show N 1 = 1 from rfl), q1.2]
      refine ⟨μ2, ?_, F2, fun _ => r2, fun q => by cases q⟩
      simp only [c1, Option.bind_some]
      show jR (d + 12) 182 25 [.ref M] [] μ1 = _
      rw [b182_25]
      simp only [gI13, gR13, pI13, pR13, rv13, k1, if_true, c2, Option.bind_some]
      show jR (d + 12) 182 29 [.ref M] [] μ2 = _
      rw [b182_29, b182_164]
    · have n19 : ¬ jiv μ M 19 = 1 := by
        show ¬ jiv μ M 19 = N 1
        rcases f2 with ⟨k1, k2⟩ | ⟨k1, k2, k3⟩ | ⟨k1, k2, k3⟩ | ⟨k1, k2, k3⟩ | ⟨k1, k2, k3⟩
        · rw [k2]; decide
        · exact absurd k1 e48
        · rw [k2]; decide
        · rw [k2]; decide
        · rw [k2]; decide
      have i45 := r_isSign (d := d + 11) (c := 45) k13 h.1.2.1 h.2.1 (by decide)
      have i40 := r_isSign (d := d + 11) (c := 40) k13 h.1.2.1 h.2.1 (by decide)
      have i45 : jC (d + 11) 179 [.ref M, .int 45] μ = _ := i45
      have i40 : jC (d + 11) 179 [.ref M, .int 40] μ = _ := i40
      rw [if_neg e48, if_neg n19, i45]
      show ∃ μ', jR (d + 12) 182 38 [.ref M] [.int (bN (decide (hk ts = 45)))] μ = some (none, μ') ∧ _
      rw [b182_38]
      by_cases e45 : hk ts = 45
      · -- a minus sign ahead of a ONE
        rw [if_pos e45, decide_eq_true e45, if_neg (show ¬ bN true = 0 by decide)]
        simp only [gI13, gR13, pI13, pR13, rv13, k13, if_true]
        by_cases hw : w < 4
        · rw [if_pos hw, r_opensOk (d := d + 10) h hw]
          obtain ⟨h1, F1⟩ := h.depth (w' := w + 1)
          generalize jsetI μ M 21 (N (w + 1)) = μ1 at *
          have hR1 := hR.px F1
          obtain ⟨μ2, c2, S2⟩ := r_sign (d := d + 4) (c := 45) h1 (by decide)
          rw [if_pos e45, decide_eq_true e45] at S2
          have r2 := S2.2.1 rfl
          have tl := h.2.1.tl (show hk ts ≠ 0 by rw [e45]; decide)
          obtain ⟨μ3, c3, S3⟩ := i0 (d + 11) (k - 1) (w + 1) ts.tail _ e μ2 (by omega) (by omega) (by omega) r2 (hR1.px S2.1)
          have c3 : jC (d + 11) 182 [.ref M] μ2 = some (none, μ3) := c3
          have K3 : jk μ3 M = 13 := by rw [S3.1.1.kk]; exact r2.1.1.k13
          have run : ∀ R, jR (d + 12) 182 55 [.ref M] [] μ3 = R → ((jC (d + 11) 186 [.ref M, .int 45] μ1).bind fun p1 => jR (d + 12) 182 51 [.ref M] (p1.1.toList ++ []) p1.2) = R := fun R q => by
            have c2 : jC (d + 11) 186 [.ref M, .int 45] μ1 = some (none, μ2) := c2
            rw [c2]
            show jR (d + 12) 182 51 [.ref M] [] μ2 = _
            rw [b182_51]
            simp only [gI13, gR13, pI13, pR13, rv13, r2.1.1.k13, if_true, c3, Option.bind_some]
            exact q
          have e45' : jR (d + 12) 182 45 [.ref M] [] μ1 = (jC (d + 11) 186 [.ref M, .int 45] μ1).bind fun p1 => jR (d + 12) 182 51 [.ref M] (p1.1.toList ++ []) p1.2 := by
            rw [b182_45]
            simp only [gI13, gR13, pI13, pR13, rv13, h1.1.1.k13, if_true, decide_true]
          have e55 : jR (d + 12) 182 55 [.ref M] [] μ3 = some (none, jsetI μ3 M 21 (jiv μ3 M 21 - 1)) := by
            rw [b182_55]
            simp only [gI13, gR13, pI13, pR13, rv13, K3, jfit0, and_true, if_true, Option.bind_some]
            rw [b182_164]
          simp only [Option.bind_some]
          show ∃ μ', jR (d + 12) 182 45 [.ref M] [] μ1 = some (none, μ') ∧ _
          rw [e45', run _ e55]
          refine ⟨_, rfl, ?_⟩
          show RE M B bs w μ _ (pP (kyG G) n 0 (w + 1) e ts.tail).1 (pP (kyG G) n 0 (w + 1) e ts.tail).2.1 (T ++ ((N 1, N 45) :: encE (pP (kyG G) n 0 (w + 1) e ts.tail).2.2))
          by_cases ok : (pP (kyG G) n 0 (w + 1) e ts.tail).1 = true
          · have r3 := S3.2.1 ok
            have g21 := r3.1.2.2.1
            rw [g21, ed]
            obtain ⟨h4, F4⟩ := r3.depth (w' := w)
            rw [ok]
            refine ⟨((F1.trans S2.1).trans S3.1).trans F4, fun _ => ?_, fun q => by cases q⟩
            rw [List.append_assoc] at h4
            exact h4
          · have f := S3.2.2 (bnot ok)
            rw [bnot ok]
            have W := WR.set (k := 21) (v := jiv μ3 M 21 - 1) (by omega) f.1
            exact RE.no (((F1.trans S2.1).trans S3.1).trans W.1) (W.to f)
        · rw [if_neg hw]
          obtain ⟨μ1, c1, W1⟩ := r_opensNo (d := d + 10) h (by omega)
          rw [c1]
          have f1 : RW' μ1 M (hs ts) := ⟨W1.2.1, W1.2.2.trans h.1.2.1.1⟩
          have K1 := W1.kq k13
          obtain ⟨μ2, c2, W2⟩ := r_signW (d := d + 4) (x := 45) K1 f1.1
          have K2 := W2.kq K1
          have W3 := WR.set (M := M) (k := 21) (v := jiv μ2 M 21 - 1) (by omega) W2.2.1
          refine ⟨jsetI μ2 M 21 (jiv μ2 M 21 - 1), ?_, RE.no ((W1.1.trans W2.1).trans W3.1) (W3.to (W2.to f1))⟩
          simp only [Option.bind_some]
          show jR (d + 12) 182 45 [.ref M] [] μ1 = _
          rw [b182_45]
          simp only [gI13, gR13, pI13, pR13, rv13, K1, if_true, c2, Option.bind_some]
          show jR (d + 12) 182 51 [.ref M] [] μ2 = _
          rw [b182_51]
          simp only [gI13, gR13, pI13, pR13, rv13, K2, if_true, r_oneW K2 W2.2.1, Option.bind_some]
          show jR (d + 12) 182 55 [.ref M] [] μ2 = _
          rw [b182_55]
          simp only [gI13, gR13, pI13, pR13, rv13, K2, jfit0, and_true, if_true, Option.bind_some]
          rw [b182_164]
      · rw [if_neg e45, decide_eq_false e45, if_pos (show bN false = 0 from rfl)]
        simp only [gI13, gR13, pI13, pR13, rv13, k13, if_true, i40, Option.bind_some]
        show ∃ μ', jR (d + 12) 182 74 [.ref M] [.int (bN (decide (hk ts = 40)))] μ = some (none, μ') ∧ _
        rw [b182_74]
        by_cases e40 : hk ts = 40
        · -- a sum in brackets
          rw [if_pos e40, decide_eq_true e40, if_neg (show ¬ bN true = 0 by decide)]
          simp only [gI13, gR13, pI13, pR13, rv13, k13, if_true]
          by_cases hw : w < 4
          · rw [if_pos hw, r_opensOk (d := d + 10) h hw]
            obtain ⟨h1, F1⟩ := h.depth (w' := w + 1)
            generalize jsetI μ M 21 (N (w + 1)) = μ1 at *
            have hR1 := hR.px F1
            obtain ⟨μ2, c2, S2⟩ := r_sign (d := d + 4) (c := 40) h1 (by decide)
            rw [if_pos e40, decide_eq_true e40] at S2
            have r2 := S2.2.1 rfl
            have tl := h.2.1.tl (show hk ts ≠ 0 by rw [e40]; decide)
            obtain ⟨μ3, c3, S3⟩ := i2 (d + 11) (k - 1) (w + 1) ts.tail _ e μ2 (by omega) (by omega) (by omega) r2 (hR1.px S2.1)
            have c3 : jC (d + 11) 180 [.ref M] μ2 = some (none, μ3) := c3
            have K3 : jk μ3 M = 13 := by rw [S3.1.1.kk]; exact r2.1.1.k13
            have K4 : jk (jsetI μ3 M 21 (jiv μ3 M 21 - 1)) M = 13 := K3
            have run : jR (d + 12) 182 81 [.ref M] [] μ1 = (jC (d + 11) 186 [.ref M, .int 41] (jsetI μ3 M 21 (jiv μ3 M 21 - 1))).bind fun p1 => jR (d + 12) 182 107 [.ref M] (p1.1.toList ++ []) p1.2 := by
              have c2 : jC (d + 11) 186 [.ref M, .int 40] μ1 = some (none, μ2) := c2
              rw [b182_81]
              simp only [gI13, gR13, pI13, pR13, rv13, h1.1.1.k13, if_true, c2, Option.bind_some]
              show jR (d + 12) 182 87 [.ref M] [] μ2 = _
              rw [b182_87]
              simp only [gI13, gR13, pI13, pR13, rv13, r2.1.1.k13, if_true, c3, Option.bind_some]
              show jR (d + 12) 182 91 [.ref M] [] μ3 = _
              rw [b182_91]
              simp only [gI13, gR13, pI13, pR13, rv13, K3, K4, jfit0, and_true, if_true, decide_true, Option.bind_some]
            have fin : ∀ μ4, jC (d + 11) 186 [.ref M, .int 41] (jsetI μ3 M 21 (jiv μ3 M 21 - 1)) = some (none, μ4) → jR (d + 12) 182 81 [.ref M] [] μ1 = some (none, μ4) := fun μ4 q => by
              rw [run, q]
              show jR (d + 12) 182 107 [.ref M] [] μ4 = _
              rw [b182_107, b182_164]
            simp only [Option.bind_some]
            show ∃ μ', jR (d + 12) 182 81 [.ref M] [] μ1 = some (none, μ') ∧ _
            by_cases ok : (pP (kyG G) n 2 (w + 1) e ts.tail).1 = true
            · rw [if_pos ok]
              have r3 := S3.2.1 ok
              have g21 := r3.1.2.2.1
              rw [g21, ed] at fin
              obtain ⟨h4, F4⟩ := r3.depth (w' := w)
              obtain ⟨μ4, c4, S4⟩ := r_sign (d := d + 4) (c := 41) h4 (by decide)
              have FF := ((F1.trans S2.1).trans S3.1).trans F4
              have S4 := re_pre FF S4
              refine ⟨μ4, fin μ4 c4, ?_⟩
              by_cases e41 : hk (pP (kyG G) n 2 (w + 1) e ts.tail).2.1 = 41
              · rw [if_pos e41, decide_eq_true e41] at S4
                rw [if_pos e41]
                refine ⟨S4.1, fun _ => ?_, fun q => by cases q⟩
                have r4 := S4.2.1 rfl
                have eT : T ++ [(N 1, N 40)] ++ encE (pP (kyG G) n 2 (w + 1) e ts.tail).2.2 ++ [(N 1, N 41)] = T ++ (N 1, N 40) :: (encE (pP (kyG G) n 2 (w + 1) e ts.tail).2.2 ++ [(N 1, N 41)]) := by
                  simp only [List.append_assoc, List.cons_append, List.nil_append]
                rw [eT] at r4
                exact r4
              · rw [if_neg e41, decide_eq_false e41] at S4
                rw [if_neg e41]
                exact RE.no S4.1 (S4.2.2 rfl)
            · rw [if_neg ok]
              have f := S3.2.2 (bnot ok)
              have W := WR.set (M := M) (k := 21) (v := jiv μ3 M 21 - 1) (by omega) f.1
              obtain ⟨μ4, c4, W4⟩ := r_signW (d := d + 4) (x := 41) K4 W.2.1
              exact ⟨μ4, fin μ4 c4, RE.no ((((F1.trans S2.1).trans S3.1).trans W.1).trans W4.1) (W4.to (W.to f))⟩
          · rw [if_neg hw]
            obtain ⟨μ1, c1, W1⟩ := r_opensNo (d := d + 10) h (by omega)
            rw [c1]
            have f1 : RW' μ1 M (hs ts) := ⟨W1.2.1, W1.2.2.trans h.1.2.1.1⟩
            have K1 := W1.kq k13
            obtain ⟨μ2, c2, W2⟩ := r_signW (d := d + 4) (x := 40) K1 f1.1
            have K2 := W2.kq K1
            have W3 := WR.set (M := M) (k := 21) (v := jiv μ2 M 21 - 1) (by omega) W2.2.1
            have K3 : jk (jsetI μ2 M 21 (jiv μ2 M 21 - 1)) M = 13 := K2
            obtain ⟨μ4, c4, W4⟩ := r_signW (d := d + 4) (x := 41) K3 W3.2.1
            refine ⟨μ4, ?_, RE.no (((W1.1.trans W2.1).trans W3.1).trans W4.1) (W4.to (W3.to (W2.to f1)))⟩
            simp only [Option.bind_some]
            show jR (d + 12) 182 81 [.ref M] [] μ1 = _
            rw [b182_81]
            simp only [gI13, gR13, pI13, pR13, rv13, K1, if_true, c2, Option.bind_some]
            show jR (d + 12) 182 87 [.ref M] [] μ2 = _
            rw [b182_87]
            have sw : jC (d + 11) 180 [.ref M] μ2 = some (none, μ2) := r_sumW (d := d + 8) K2 W2.2.1
            simp only [gI13, gR13, pI13, pR13, rv13, K2, if_true, sw, Option.bind_some]
            show jR (d + 12) 182 91 [.ref M] [] μ2 = _
            rw [b182_91]
            have c4 : jC (d + 11) 186 [.ref M, .int 41] (jsetI μ2 M 21 (jiv μ2 M 21 - 1)) = some (none, μ4) := c4
            simp only [gI13, gR13, pI13, pR13, rv13, K2, K3, jfit0, and_true, if_true, Option.bind_some, c4]
            show jR (d + 12) 182 107 [.ref M] [] μ4 = _
            rw [b182_107, b182_164]
        · rw [if_neg e40, decide_eq_false e40, if_pos (show bN false = 0 from rfl)]
          simp only [gI13, gR13, pI13, pR13, rv13, k13, if_true, Option.bind_some]
          by_cases ew : hk ts = 116 ∨ hk ts = 109 ∨ hk ts = 108 ∨ hk ts = 110
          · have q3 : jiv μ M 19 = N 3 ∧ jiv μ M 20 = N (wcode (hk ts)) := by
              rcases f2 with ⟨k1, k2⟩ | ⟨k1, k2, k3⟩ | ⟨k1, k2, k3⟩ | ⟨k1, k2, k3⟩ | ⟨k1, k2, k3⟩
              · rw [k1] at ew; exact absurd ew (by decide)
              · rw [k1] at ew; exact absurd ew (by decide)
              · have := sg_ne k1; omega
              · exact ⟨k2, k3⟩
              · rw [k1] at ew; exact absurd ew (by decide)
            obtain ⟨μ1, μ2, c1, c2, S⟩ := r_rng (d := d + 3) (e := e) h hR hK ew
            rw [if_pos ew, q3.1, if_pos (show N 3 = 3 from rfl), q3.2]
            refine ⟨μ2, ?_, S⟩
            have c1 : jC (d + 11) 183 [.ref M, .int 2, .int (N (wcode (hk ts)))] μ = some (none, μ1) := c1
            simp only [c1, Option.bind_some]
            exact c2
          · have n3 : ¬ jiv μ M 19 = 3 := by
              show ¬ jiv μ M 19 = N 3
              rcases f2 with ⟨k1, k2⟩ | ⟨k1, k2, k3⟩ | ⟨k1, k2, k3⟩ | ⟨k1, k2, k3⟩ | ⟨k1, k2, k3⟩
              · rw [k2]; decide
              · rw [k2]; decide
              · rw [k2]; decide
              · exact absurd k1 ew
              · rw [k2]; decide
            obtain ⟨μ1, c1, S⟩ := r_ref (d := d + 3) h hR hK
            rw [if_neg ew, if_neg n3]
            refine ⟨μ1, ?_, S⟩
            have c1 : jC (d + 11) 187 [.ref M] μ = some (none, μ1) := c1
            simp only [c1, Option.bind_some]
            show jR (d + 12) 182 164 [.ref M] [] μ1 = _
            rw [b182_164]
end LEX
