/-! THE REFERENCE, MERGING: by the rule -/
section LAY
variable {μ μ' μ'' ν : jM} {S S' : Nat → Prop} {T T' : Nat → Nat → Prop} {M g h t s n w d D i j k x y a b c f : Nat} {A B C : GA} {σ : SG} {G : Nat → DG} {o o' ob ox ot : Option Nat} {R : Nat → Nat × Nat} {l : List CL}
theorem r_byRule (h : GG μ M G) (hr : RG μ M R) (hc : c < 3) (hb : smG G 0 ob) (hx : smG G 1 ox) (ht : smG G 2 ot) (hy : y < 24) (n1 : ¬ (cnt (cO [] (G 1) ox c) = cnt (cO [] (G 2) ot c) ∨ cnt (cO [] (G 0) ob c) = cnt (cO [] (G 2) ot c))) (n2 : ¬ cnt (cO [] (G 0) ob c) = cnt (cO [] (G 1) ox c)) : ∃ x, CT μ M x (pCont (R c) (cO [] (G 0) ob c) (cO [] (G 1) ox c) (cO [] (G 2) ot c)).1 ∧ jC (d + 2) 237 [.ref M, .int (pl ob), .int (pl ox), .int (pl ot), .int (N c), .int (N y)] μ = some (none, putC μ (mA M 3) y x.1 x.2.1 x.2.2.1) := by
  have hq := h.1
  have k13 := hq.k13
  obtain ⟨r1, r2⟩ := hr.rule hq hc
  obtain ⟨r6, f99⟩ := hr.2 c hc
  have q6 := hq.fr.1
  have q7 := hq.fr.2.1
  have m0 := r_numberAt (d := d) (g := 0) h (by decide) hc hb
  have m1 := r_numberAt (d := d) (g := 1) h (by decide) hc hx
  have m2 := r_numberAt (d := d) (g := 2) h (by decide) hc ht
  have m0 : jC (d + 1) 238 [.ref M, .int 0, .int (pl ob), .int (N c)] μ = _ := m0
  have m1 : jC (d + 1) 238 [.ref M, .int 1, .int (pl ox), .int (N c)] μ = _ := m1
  have m2 : jC (d + 1) 238 [.ref M, .int 2, .int (pl ot), .int (N c)] μ = _ := m2
  have t1 := r_kindAt (d := d + 1) (g := 1) h (by decide) hc hx
  have t2 := r_kindAt (d := d + 1) (g := 2) h (by decide) hc ht
  have t1 : jC (d + 1) 230 [.ref M, .int 1, .int (pl ox), .int (N c)] μ = _ := t1
  have t2 : jC (d + 1) 230 [.ref M, .int 2, .int (pl ot), .int (N c)] μ = _ := t2
  have ad := r_adds (d := d) h hr hc hb hx ht
  obtain ⟨x0, y0, c0⟩ := r_takes (d := d) (g := 0) h (by decide) hc hb hy
  obtain ⟨x1, y1, c1⟩ := r_takes (d := d) (g := 1) h (by decide) hc hx hy
  obtain ⟨x2, y2, c2⟩ := r_takes (d := d) (g := 2) h (by decide) hc ht hy
  have c0 : jC (d + 1) 236 [.ref M, .int 0, .int (pl ob), .int (N c), .int (N y)] μ = _ := c0
  have c1 : jC (d + 1) 236 [.ref M, .int 1, .int (pl ox), .int (N c), .int (N y)] μ = _ := c1
  have c2 : jC (d + 1) 236 [.ref M, .int 2, .int (pl ot), .int (N c), .int (N y)] μ = _ := c2
  have fin : ∀ a b c e f g h i j m, jR (d + 2) 237 213 [a, b, c, e, f, g, h, i, j] [] m = some (none, m) := fun a b c e f g h i j m => b237_213 ..
  have st : jC (d + 2) 237 [.ref M, .int (pl ob), .int (pl ox), .int (pl ot), .int (N c), .int (N y)] μ = jR (d + 2) 237 29 [.ref M, .int (pl ob), .int (pl ox), .int (pl ot), .int (N c), .int (N y), .int (cO [] (G 1) ox c).2.1, .int (cO [] (G 2) ot c).2.1, .retAddr 0] [.int (pN (((cO [] (G 1) ox c).1 = N 1 ∧ (cO [] (G 2) ot c).1 = N 1) ∧ ((R c).1 = 3 ∨ (R c).1 = 4) ∧ (cO [] (G 0) ob c).1 ≠ N 2))] μ := by
    rw [jC_run (by decide)]
    show jR (d + 2) 237 0 [.ref M, .int (pl ob), .int (pl ox), .int (pl ot), .int (N c), .int (N y), .retAddr 0, .retAddr 0, .retAddr 0] [] μ = _
    rw [b237_0]
    simp only [gI13, gR13, pI13, pR13, rv13, k13, if_true, Option.bind_some, m1]
    show jR (d + 2) 237 8 [.ref M, .int (pl ob), .int (pl ox), .int (pl ot), .int (N c), .int (N y), .retAddr 0, .retAddr 0, .retAddr 0] [.int (cO [] (G 1) ox c).2.1] μ = _
    rw [b237_8]
    simp only [gI13, gR13, pI13, pR13, rv13, k13, if_true, Option.bind_some, m2]
    show jR (d + 2) 237 18 [.ref M, .int (pl ob), .int (pl ox), .int (pl ot), .int (N c), .int (N y), .int (cO [] (G 1) ox c).2.1, .retAddr 0, .retAddr 0] [.int (cO [] (G 2) ot c).2.1] μ = _
    rw [b237_18]
    simp only [gI13, gR13, pI13, pR13, rv13, k13, if_true, Option.bind_some, ad]
    rfl
  rw [st, b237_29]
  unfold pCont
  rw [if_neg n1, if_neg n2]
  by_cases ea : ((cO [] (G 1) ox c).1 = N 1 ∧ (cO [] (G 2) ot c).1 = N 1) ∧ ((R c).1 = 3 ∨ (R c).1 = 4) ∧ (cO [] (G 0) ob c).1 ≠ N 2
  · rw [pN_pos ea, if_pos ea, if_neg (show ¬ N 1 = 0 by decide)]
    simp only [gI13, gR13, pI13, pR13, rv13, k13, if_true, Option.bind_some, m0]
    show ∃ x, CT μ M x (N 1, if (R c).1 = 4 then imin ((cO [] (G 1) ox c).2.1 + (cO [] (G 2) ot c).2.1 - (cO [] (G 0) ob c).2.1) (N (R c).2) else (cO [] (G 1) ox c).2.1 + (cO [] (G 2) ot c).2.1 - (cO [] (G 0) ob c).2.1, []) ∧ jR (d + 2) 237 45 [.ref M, .int (pl ob), .int (pl ox), .int (pl ot), .int (N c), .int (N y), .int (cO [] (G 1) ox c).2.1, .int (cO [] (G 2) ot c).2.1, .retAddr 0] [.int (cO [] (G 0) ob c).2.1, .int ((cO [] (G 1) ox c).2.1 + (cO [] (G 2) ot c).2.1)] μ = _
    generalize hsm : (cO [] (G 1) ox c).2.1 + (cO [] (G 2) ot c).2.1 - (cO [] (G 0) ob c).2.1 = sm
    have put : ∀ v : Int32, CT μ M (N 1, v, none, N 0) (N 1, v, []) ∧ ∀ a b e f g h i j m', jR (d + 2) 237 81 [a, b, e, f, g, h, i, j, m'] [.int v, .int 1, .int (N y), .int 3, .ref M] μ = some (none, putC μ (mA M 3) y (N 1) v none) := by
      intro v
      have z : CT μ M (N 1, v, none, N 0) (N 1, v, []) := ⟨Or.inr (Or.inl ⟨rfl, rfl⟩), rfl⟩
      refine ⟨z, fun a b e f g h i j m' => ?_⟩
      have p1 := put_ct (d := d + 1) hq z hy
      have p1 : jC (d + 1) 192 [.ref M, .int 3, .int (N y), .int 1, .int v, .null] μ = some (none, putC μ (mA M 3) y (N 1) v none) := p1
      rw [b237_81 (hs0 := ir_ref)]
      simp only [gI13, gR13, pI13, pR13, rv13, k13, if_true, Option.bind_some, p1]
      show jR (d + 2) 237 85 [a, b, e, f, g, h, i, j, m'] [] _ = _
      rw [b237_85, fin]
    rw [b237_45]
    simp only [gI13, gR13, pI13, pR13, rv13, k13, if_true, Option.bind_some, rf_some, q6, q7, r1, r2, hsm]
    by_cases e4 : (R c).1 = 4
    · rw [if_pos (show N (R c).1 = 4 by rw [e4]; rfl), if_pos e4]
      refine ⟨_, (put _).1, ?_⟩
      simp only [math_min, Option.bind_some]
      show jR (d + 2) 237 76 _ [.int _, .int 1, .int (N y), .int 3, .ref M] μ = _
      rw [b237_76 (hs0 := ir_ref)]
      exact (put _).2 ..
    · rw [if_neg (show ¬ N (R c).1 = 4 by show ¬ N (R c).1 = N 4; rw [N_inj (by omega) (by decide)]; exact e4), if_neg e4]
      exact ⟨_, (put _).1, (put _).2 ..⟩
  · rw [pN_neg ea, if_neg ea, if_pos (show N 0 = 0 from rfl)]
    show ∃ x, CT μ M x (if (R c).1 = 5 then cnt (cO [] (G 0) ob c) else if (R c).1 = 1 then cnt (cO [] (G 2) ot c) else if 2 ≤ (R c).1 ∧ ((cO [] (G 1) ox c).1 = N 1 ∧ (cO [] (G 2) ot c).1 = N 1) ∧ (cO [] (G 1) ox c).2.1 < (cO [] (G 2) ot c).2.1 then cnt (cO [] (G 2) ot c) else cnt (cO [] (G 1) ox c)) ∧ _
    simp only [gI13, gR13, pI13, pR13, rv13, k13, if_true, Option.bind_some, rf_some, q6, r1]
    by_cases e1 : (R c).1 = 1
    · rw [if_pos (show N (R c).1 = 1 by rw [e1]; rfl), if_neg (show ¬ (R c).1 = 5 by omega), if_pos e1]
      refine ⟨x2, y2, ?_⟩
      simp only [c2, Option.bind_some]
      show jR (d + 2) 237 109 [.ref M, .int (pl ob), .int (pl ox), .int (pl ot), .int (N c), .int (N y), _, _, _] [] _ = _
      rw [b237_109, fin]
    · rw [if_neg (show ¬ N (R c).1 = 1 by show ¬ N (R c).1 = N 1; rw [N_inj (by omega) (by decide)]; exact e1)]
      by_cases e5 : (R c).1 = 5
      · rw [if_pos (show N (R c).1 = 5 by rw [e5]; rfl), if_pos e5]
        refine ⟨x0, y0, ?_⟩
        simp only [c0, Option.bind_some]
        show jR (d + 2) 237 133 [.ref M, .int (pl ob), .int (pl ox), .int (pl ot), .int (N c), .int (N y), _, _, _] [] _ = _
        rw [b237_133, fin]
      · rw [if_neg (show ¬ N (R c).1 = 5 by show ¬ N (R c).1 = N 5; rw [N_inj (by omega) (by decide)]; exact e5), if_neg e5, if_neg e1]
        have mine : jR (d + 2) 237 182 [.ref M, .int (pl ob), .int (pl ox), .int (pl ot), .int (N c), .int (N y), .int (cO [] (G 1) ox c).2.1, .int (cO [] (G 2) ot c).2.1, .retAddr 0] [] μ = some (none, putC μ (mA M 3) y x1.1 x1.2.1 x1.2.2.1) := by
          rw [b237_182, b237_183, if_pos rfl, b237_196 (hs0 := ir_ref), if_pos rfl, b237_206 (hs0 := ir_ref)]
          simp only [gI13, gR13, pI13, pR13, rv13, k13, if_true, Option.bind_some, c1]
          exact fin ..
        have theirs : jR (d + 2) 237 183 [.ref M, .int (pl ob), .int (pl ox), .int (pl ot), .int (N c), .int (N y), .int (cO [] (G 1) ox c).2.1, .int (cO [] (G 2) ot c).2.1, .retAddr 0] [.int 1] μ = some (none, putC μ (mA M 3) y x2.1 x2.2.1 x2.2.2.1) := by
          rw [b237_183, if_neg (by decide), b237_196 (hs0 := ir_ref), if_neg (by decide), b237_206 (hs0 := ir_ref)]
          simp only [gI13, gR13, pI13, pR13, rv13, k13, if_true, Option.bind_some, c2]
          exact fin ..
        by_cases e2 : 2 ≤ (R c).1
        · rw [if_neg (show ¬ N (R c).1 < 2 by show ¬ N (R c).1 < N 2; rw [N_lt (by omega) (by decide)]; omega)]
          simp only [t1, Option.bind_some]
          show ∃ x, CT μ M x _ ∧ jR (d + 2) 237 155 [.ref M, .int (pl ob), .int (pl ox), .int (pl ot), .int (N c), .int (N y), .int (cO [] (G 1) ox c).2.1, .int (cO [] (G 2) ot c).2.1, .retAddr 0] [.int (cO [] (G 1) ox c).1] μ = _
          rw [b237_155]
          by_cases z1 : (cO [] (G 1) ox c).1 = N 1
          · rw [if_pos (show (cO [] (G 1) ox c).1 = 1 from z1)]
            simp only [gI13, gR13, pI13, pR13, rv13, k13, if_true, Option.bind_some, t2]
            show ∃ x, CT μ M x _ ∧ jR (d + 2) 237 167 [.ref M, .int (pl ob), .int (pl ox), .int (pl ot), .int (N c), .int (N y), .int (cO [] (G 1) ox c).2.1, .int (cO [] (G 2) ot c).2.1, .retAddr 0] [.int (cO [] (G 2) ot c).1] μ = _
            rw [b237_167]
            by_cases z2 : (cO [] (G 2) ot c).1 = N 1
            · rw [if_pos (show (cO [] (G 2) ot c).1 = 1 from z2)]
              by_cases z3 : (cO [] (G 1) ox c).2.1 < (cO [] (G 2) ot c).2.1
              · rw [if_pos z3, if_pos ⟨e2, ⟨z1, z2⟩, z3⟩, theirs]
                exact ⟨x2, y2, rfl⟩
              · rw [if_neg z3, if_neg (fun q => z3 q.2.2), mine]
                exact ⟨x1, y1, rfl⟩
            · rw [if_neg (show ¬ (cO [] (G 2) ot c).1 = 1 from z2), if_neg (fun q => z2 q.2.1.2), mine]
              exact ⟨x1, y1, rfl⟩
          · rw [if_neg (show ¬ (cO [] (G 1) ox c).1 = 1 from z1), if_neg (fun q => z1 q.2.1.1), mine]
            exact ⟨x1, y1, rfl⟩
        · rw [if_pos (show N (R c).1 < 2 by show N (R c).1 < N 2; rw [N_lt (by omega) (by decide)]; omega), if_neg (fun q => e2 q.1), mine]
          exact ⟨x1, y1, rfl⟩
end LAY
