/-! THE REFERENCE's CALLS: settle, whole -/
section LAY
variable {μ μ' μ'' ν : jM} {S S' : Nat → Prop} {T T' : Nat → Nat → Prop} {M g h t s n w d D i j k x y a b c f q : Nat} {A B C : GA} {σ : SG} {G : Nat → DG} {o o' ob ox ot : Option Nat} {R : Nat → Nat × Nat} {l l' : List CL} {V : Nat → DC} {K : List Int32} {W Wf : DG}
/-- one clash marked as settled -/
theorem st_mark {c : CL} {u2 u3 u4 u5 u6 : Value} (h : MR μ M σ) (hi : σ.2.2.2.1[i]? = some c) : ∃ μ', jR (d + 1) 242 179 [.ref M, .int (N i), u2, u3, u4, u5, u6] [] μ = some (some (.int (N (unsN (σ.2.2.2.1.set i (c.1, c.2.1, c.2.2.1, N 1))))), μ') ∧ FR M μ μ' ∧ MR μ' M (scl σ (σ.2.2.2.1.set i (c.1, c.2.1, c.2.2.1, N 1)) σ.2.2.2.2.1) := by
  have hq := h.1
  have k13 := hq.k13
  obtain ⟨-, -, -, -, -, -, -, ⟨h80, h35, hv⟩, hm, -⟩ := id h
  obtain ⟨⟨q37, q38, q39, q40⟩, k5, k6, k7, k8⟩ := hq.cl
  have hil : i < σ.2.2.2.1.length := (List.getElem?_eq_some_iff.mp hi).1
  have s1 := sBool (μ := μ) (a := M + 408) (i := i) (v := 1) k8.1 (by rw [k8.2]; omega) (by rw [k8.2]; decide) (by decide)
  have F2 : Fx (fun a => a = M + 408) (fun _ _ => False) μ (jsetI μ (M + 408) i (N 1)) := Fx.setI Fx.refl rfl
  have iM : jiv (jsetI μ (M + 408) i (N 1)) M = jiv μ M := F2.iv (by omega)
  have hl : MRc (jsetI μ (M + 408) i (N 1)) M (σ.2.2.2.1.set i (c.1, c.2.1, c.2.2.1, N 1)) := by
    refine ⟨by rw [List.length_set]; exact h80, by rw [iM, List.length_set]; exact h35, fun j v hj => ?_⟩
    rw [F2.iv (a := M + 405) (by omega), F2.iv (a := M + 406) (by omega), F2.iv (a := M + 407) (by omega)]
    show _ ∧ _ ∧ _ ∧ (if M + 408 = M + 408 ∧ j = i then N 1 else jiv μ (M + 408) j) = v.2.2.2
    rw [List.getElem?_set] at hj
    by_cases ej : i = j
    · subst ej
      rw [if_pos rfl, if_pos hil] at hj
      cases hj
      obtain ⟨v1, v2, v3, v4⟩ := hv i c hi
      rw [if_pos ⟨rfl, rfl⟩]
      exact ⟨v1, v2, v3, rfl⟩
    · rw [if_neg ej] at hj
      rw [if_neg (fun q => ej q.2.symm)]
      exact hv j v hj
  obtain ⟨z1, z2⟩ := h.clm (l := σ.2.2.2.1.set i (c.1, c.2.1, c.2.2.1, N 1)) (m := σ.2.2.2.2.1) F2 (fun a k => Or.inr (by omega)) (fun j _ _ => by rw [iM]) hl (show jiv (jsetI μ (M + 408) i (N 1)) M 36 = _ by rw [iM]; exact hm)
  refine ⟨_, ?_, z1, z2⟩
  have un := r_unsettled (d := d) z2.1 hl
  have s1 : jsB μ (.ref (M + 408)) (N i) 1 = _ := s1
  rw [b242_179]
  simp only [gI13, gR13, pI13, pR13, rv13, k13, q40, s1, z2.1.k13, un, if_true, Option.bind_some, rf_some]
  exact b242_190 ..
theorem sby_lt {y : Nat} (hy : y ≤ 2) : sby (N y) < 3 ∧ (if (N y : Int32) = 2 then (0 : Int32) else N y + 1) = N (sby (N y)) := by
  rcases (show y = 0 ∨ y = 1 ∨ y = 2 by omega) with rfl | rfl | rfl <;> decide
theorem p_settle (h : MR μ M σ) (hw : CW σ) (hs01 : ∀ c ∈ σ.2.2.2.1, c.2.2.2 = N 0 ∨ c.2.2.2 = N 1) (i y : Int32) : ROP M (jC (d + 4) 242 [.ref M, .int i, .int y] μ) μ (o_settle σ i y) := by
  have hq := h.1
  have k13 := hq.k13
  obtain ⟨-, -, -, -, -, -, -, ⟨h80, h35, hv⟩, hm, -⟩ := id h
  have st : jC (d + 4) 242 [.ref M, .int i, .int y] μ = jR (d + 4) 242 6 [.ref M, .int i, .int y, .retAddr 0, .retAddr 0, .retAddr 0, .retAddr 0] [.int (if y < N 0 ∨ N 2 < y then N 0 else N 1)] μ := by
    rw [jC_run (by decide)]
    show jR (d + 4) 242 0 [.ref M, .int i, .int y, .retAddr 0, .retAddr 0, .retAddr 0, .retAddr 0] [] μ = _
    rw [b242_0, r_btw]
    rfl
  rw [st, b242_6]
  unfold o_settle
  by_cases ey : y < N 0 ∨ N 2 < y
  · rw [if_pos ey, if_pos ey, if_pos (by decide)]
    exact ⟨μ, rfl, FR.refl, h⟩
  · rw [if_neg ey, if_neg ey, if_neg (by decide)]
    obtain ⟨y0, hy0, rfl⟩ := N_of (fun q => ey (Or.inl q))
    have hy2 : y0 ≤ 2 := by
      have : ¬ N 2 < N y0 := fun q => ey (Or.inr q)
      rw [N_lt (by decide) hy0] at this
      omega
    simp only [gI13, gR13, pI13, pR13, rv13, k13, if_true, Option.bind_some, h35]
    rw [show (1 : Int32) = N 1 from rfl, show (0 : Int32) = N 0 from rfl, r_in (by omega)]
    show ROP M (jR (d + 4) 242 23 [.ref M, .int i, .int (N y0), .retAddr 0, .retAddr 0, .retAddr 0, .retAddr 0] [.int (okI (ix σ.2.2.2.1.length i))] μ) μ _
    rw [b242_23]
    cases ei : ix σ.2.2.2.1.length i with
    | none =>
      rw [if_pos (by rw [okI_0])]
      exact ⟨μ, rfl, FR.refl, h⟩
    | some i0 =>
      obtain ⟨rfl, hil⟩ := ix_some (by omega) ei
      rw [if_neg (by rw [okI_0]; simp)]
      have ec : σ.2.2.2.1[i0]? = some σ.2.2.2.1[i0] := List.getElem?_eq_getElem hil
      show ROP M _ μ (match σ.2.2.2.1[i0]? with
        | none => (aOUT, σ)
        | some c => if c.2.2.2 = N 1 then (aSTATE, σ) else (N (unsN (σ.2.2.2.1.set i0 (c.1, c.2.1, c.2.2.1, N 1))), scl (stg σ 3 (pSet (σ.1.1 3) (σ.1.1 (sby (N y0))) c.1 c.2.1 c.2.2.1)) (σ.2.2.2.1.set i0 (c.1, c.2.1, c.2.2.1, N 1)) σ.2.2.2.2.1))
      rw [ec]
      obtain ⟨v1, v2, v3, v4⟩ := hv i0 _ ec
      have hw1 := hs01 _ (List.mem_of_getElem? ec)
      have hcw := hw _ (List.mem_of_getElem? ec)
      generalize σ.2.2.2.1[i0] = c at *
      obtain ⟨⟨q37, q38, q39, q40⟩, k5, k6, k7, k8⟩ := hq.cl
      have g1 := ent_get (μ := μ) (i := i0) k5.1 k5.2 (by omega) (by decide)
      have g2 := ent_get (μ := μ) (i := i0) k6.1 k6.2 (by omega) (by decide)
      have g3 := ent_get (μ := μ) (i := i0) k7.1 k7.2 (by omega) (by decide)
      rw [v1] at g1
      rw [v2] at g2
      rw [v3] at g3
      have g4 : jaB μ (.ref (M + 408)) (N i0) = some c.2.2.2 := by
        rw [aB_eq, if_pos ⟨Or.inl k8.1, by rw [jinb_N (by omega), k8.2]; exact decide_eq_true (by omega)⟩, N_nat (by omega), v4]
      simp only [gI13, gR13, pI13, pR13, rv13, k13, q40, if_true, Option.bind_some, rf_some, g4]
      show ROP M _ μ (if c.2.2.2 = N 1 then (aSTATE, σ) else (N (unsN (σ.2.2.2.1.set i0 (c.1, c.2.1, c.2.2.1, N 1))), scl (stg σ 3 (pSet (σ.1.1 3) (σ.1.1 (sby (N y0))) c.1 c.2.1 c.2.2.1)) (σ.2.2.2.1.set i0 (c.1, c.2.1, c.2.2.1, N 1)) σ.2.2.2.2.1))
      rcases hw1 with e0 | e0
      · rw [if_pos (show c.2.2.2 = 0 from e0), if_neg (show ¬ c.2.2.2 = N 1 by rw [e0]; decide)]
        obtain ⟨⟨p, hp⟩, hcol⟩ := hcw (by rw [e0]; decide)
        obtain ⟨sb3, sbe⟩ := sby_lt hy2
        have e53 : (if (N y0 : Int32) = 2 then jR (d + 4) 242 53 [.ref M, .int (N i0), .int (N y0), .retAddr 0, .retAddr 0, .retAddr 0, .retAddr 0] [.int 0] μ else jR (d + 4) 242 53 [.ref M, .int (N i0), .int (N y0), .retAddr 0, .retAddr 0, .retAddr 0, .retAddr 0] [.int (N y0 + 1)] μ) = jR (d + 4) 242 53 [.ref M, .int (N i0), .int (N y0), .retAddr 0, .retAddr 0, .retAddr 0, .retAddr 0] [.int (N (sby (N y0)))] μ := by
          rw [← sbe]
          split <;> rfl
        generalize sby (N y0) = g0 at *
        have pf := h.gg.place (d := d + 3) sb3 c.2.1
        have H3 := h.gq (g := 3) (by decide)
        have pt := r_placeOf (d := d + 3) hq H3.1 c.2.1
        have lf3 : lfind c.2.1 (rG μ (mA M 3)) = some p := by
          rw [← lfind_dM, (h.2.2.1 3 (by decide)).2]; exact hp
        rw [lf3] at pt
        have pt : jC (d + 3) 194 [.ref M, .int 3, .int c.2.1] μ = some (some (.int (N p)), μ) := pt
        have hpl := lfind_lt hp
        have e78 : jR (d + 4) 242 53 [.ref M, .int (N i0), .int (N y0), .retAddr 0, .retAddr 0, .retAddr 0, .retAddr 0] [.int (N g0)] μ = jR (d + 4) 242 78 [.ref M, .int (N i0), .int (N y0), .int (N g0), .int (pl (lfind c.2.1 (σ.1.1 g0))), .retAddr 0, .retAddr 0] [.int (N p)] μ := by
          rw [b242_53]
          simp only [gI13, gR13, pI13, pR13, rv13, k13, q38, if_true, Option.bind_some, rf_some, g2, pf]
          show jR (d + 4) 242 65 [.ref M, .int (N i0), .int (N y0), .int (N g0), .retAddr 0, .retAddr 0, .retAddr 0] [.int (pl (lfind c.2.1 (σ.1.1 g0)))] μ = _
          rw [b242_65]
          simp only [gI13, gR13, pI13, pR13, rv13, k13, q38, if_true, Option.bind_some, rf_some, g2, pt]
          rfl
        have fin : ∀ (μ1 : jM) (W : DG) (u2 u3 u4 u5 u6 : Value), FR M μ μ1 → MR μ1 M (stg σ 3 W) → W = pSet (σ.1.1 3) (σ.1.1 g0) c.1 c.2.1 c.2.2.1 → ROP M (jR (d + 4) 242 179 [.ref M, .int (N i0), u2, u3, u4, u5, u6] [] μ1) μ (N (unsN (σ.2.2.2.1.set i0 (c.1, c.2.1, c.2.2.1, N 1))), scl (stg σ 3 (pSet (σ.1.1 3) (σ.1.1 g0) c.1 c.2.1 c.2.2.1)) (σ.2.2.2.1.set i0 (c.1, c.2.1, c.2.2.1, N 1)) σ.2.2.2.2.1) := by
          intro μ1 W u2 u3 u4 u5 u6 F1 m1 eW
          subst eW
          obtain ⟨μ2, w1, w2, w3⟩ := st_mark (d := d + 3) (i := i0) (c := c) (u2 := u2) (u3 := u3) (u4 := u4) (u5 := u5) (u6 := u6) m1 ec
          exact ⟨μ2, w1, F1.trans w2, w3⟩
        rw [e53, e78, b242_78]
        simp only [gI13, gR13, pI13, pR13, rv13, k13, q37, q39, if_true, Option.bind_some, rf_some, g1, g3]
        by_cases c1 : c.1 = N 1
        · rw [if_pos (show c.1 = 1 from c1)]
          obtain ⟨cc, hcc, ecc⟩ := hcol (Or.inl c1)
          obtain ⟨x, ct, cx⟩ := r_takes (d := d + 2) (y := p * 3 + cc) h.gg sb3 hcc (smG_find (kk := c.2.1)) (by omega)
          obtain ⟨F1, m1⟩ := h.putc (i := p) ct hcc
          rw [ecc]
          have ey : (3 : Int32) * N p + N cc = N (p * 3 + cc) := by
            rw [show (3 : Int32) = N 3 from rfl, N_mul, N_add, Nat.mul_comm 3]
          simp only [ey, cx, Option.bind_some]
          show ROP M (jR (d + 4) 242 114 [.ref M, .int (N i0), .int (N y0), .int (N g0), .int (pl (lfind c.2.1 (σ.1.1 g0))), .int (N p), .int (N cc)] [] _) μ _
          rw [b242_114, ← ecc]
          refine fin _ _ _ _ _ _ _ F1 m1 ?_
          unfold pSet
          rw [if_pos c1, hp, ecc, N_nat (by omega)]
          rfl
        · rw [if_neg (show ¬ c.1 = 1 from c1)]
          by_cases c3 : c.1 = N 3
          · rw [if_pos (show c.1 = 3 from c3)]
            obtain ⟨cc, hcc, ecc⟩ := hcol (Or.inr c3)
            have nt := r_noteAt (d := d + 3) h.gg sb3 hcc (smG_find (kk := c.2.1))
            obtain ⟨F1, m1⟩ := h.putt (i := p) (v := (cO [] (σ.1.1 g0) (lfind c.2.1 (σ.1.1 g0)) cc).2.2.2) hcc
            rw [ecc]
            have ey : (3 : Int32) * N p + N cc = N (p * 3 + cc) := by
              rw [show (3 : Int32) = N 3 from rfl, N_mul, N_add, Nat.mul_comm 3]
            have w5 : jaR μ (.ref (M + 17)) 3 = some (.ref (M + 18 + 3)) := (hq.gr (g := 3) (by decide)).2.2.2.1
            have gg := hq.gk (g := 3) (by decide)
            have s1 := ent_set (μ := μ) (i := p * 3 + cc) (v := (cO [] (σ.1.1 g0) (lfind c.2.1 (σ.1.1 g0)) cc).2.2.2) gg.2.2.2.1.1 gg.2.2.2.1.2 (by omega) (by decide)
            simp only [gI13, gR13, pI13, pR13, rv13, k13, hq.f.2.2.2.2.1, w5, if_true, rf_some, ey, nt, Option.bind_some]
            show ROP M (jR (d + 4) 242 149 [.ref M, .int (N i0), .int (N y0), .int (N g0), .int (pl (lfind c.2.1 (σ.1.1 g0))), .int (N p), .int (N cc)] [.int (cO [] (σ.1.1 g0) (lfind c.2.1 (σ.1.1 g0)) cc).2.2.2, .int (N (p * 3 + cc)), .ref (M + 18 + 3)] μ) μ _
            rw [b242_149 (hs0 := ir_ref)]
            simp only [s1, Option.bind_some]
            rw [← ecc]
            refine fin (putT μ (mA M 3) (p * 3 + cc) _) _ _ _ _ _ _ F1 m1 ?_
            unfold pSet
            rw [if_neg c1, if_pos c3, hp, ecc, N_nat (by omega)]
          · rw [if_neg (show ¬ c.1 = 3 from c3)]
            have pn := plo_ne (kk := c.2.1) (h.gg.gq sb3).2.2
            cases ef : lfind c.2.1 (σ.1.1 g0) with
            | none =>
              obtain ⟨μ1, w1, w2, w3⟩ := h.close (d := d + 1) hpl
              rw [if_pos (show pl none = -1 from rfl)]
              simp only [w1, Option.bind_some]
              show ROP M (jR (d + 4) 242 166 [.ref M, .int (N i0), .int (N y0), .int (N g0), .int (pl none), .int (N p), .int c.2.2.1] [] _) μ _
              rw [b242_166]
              refine fin _ _ _ _ _ _ _ w2 w3 ?_
              unfold pSet
              rw [if_neg c1, if_neg c3, hp, ef]
            | some qq =>
              obtain ⟨μ1, w1, w2, w3⟩ := h.copyr (d := d + 2) sb3 hp ef
              rw [if_neg (show ¬ pl (some qq) = -1 by rw [← ef, pn, ef]; intro q; cases q)]
              simp only [pl_some, w1, Option.bind_some]
              refine fin _ _ _ _ _ _ _ w2 w3 ?_
              unfold pSet
              rw [if_neg c1, if_neg c3, hp, ef]
      · rw [if_neg (show ¬ c.2.2.2 = 0 by rw [e0]; decide), if_pos e0]
        exact ⟨μ, rfl, FR.refl, h⟩
end LAY
