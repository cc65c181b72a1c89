/-! THE REFERENCE's CALLS: tells, the call -/
section LAY
variable {μ μ' μ'' ν : jM} {S S' : Nat → Prop} {T T' : Nat → Nat → Prop} {M g h t s n w d D i j k x y a b c f q p H rt : Nat} {G : DG} {v : Int32} {r : VT} {σ τ : SG} {W : DG} {l : List CL} {m : Bool}
/-- which rules tell a column -/
theorem r_rulesTold {u2 u5 u6 u7 : Value} (h : MR μ M σ) (hw : WM σ) (hs : s < 4) (hc : c < 3) (h8 : (σ.2.2.2.2.2 s).2.length ≤ 8) : ∃ μ', ((jC (d + 451) 246 [.ref M] μ).bind fun p7 => jR (d + 452) 255 93 [.ref M, .int (N s), u2, .int (N c), .int (N 1), .int (N (σ.1.2.1 c).1), .int 0, u7] (p7.1.toList ++ []) p7.2) = some (some (.int (((pRt σ (σ.2.2.2.2.2 s).2 c 6).map N).getD aFULL)), μ') ∧ FR M μ μ' ∧ MR μ' M σ := by
  obtain ⟨μ1, a1, a2, a3, a4⟩ := r_think (d := d + 449) h
  have a1 : jC (d + 451) 246 [.ref M] μ = some (none, μ1) := a1
  have k6 := (hw.1 c hc).1
  have m0 := a3
  rw [← tS_0 (σ := σ) (c := c)] at m0
  obtain ⟨μ2, j', W', l', m', i7, b1, b2, b3, b4, b5⟩ := tl_loop (d := d) (u2 := u2) (u4 := .int (N 1)) (i5 := N (σ.1.2.1 c).1) hw hs hc h8 6 0 0 (σ.1.2.1 c).1 _ _ _ μ1 (by decide) k6 rfl m0 a4
  obtain ⟨μ3, c1, c2, c3⟩ := r_wake (d := d + 449) b4 b5
  have c1 : jC (d + 451) 249 [.ref M] μ2 = some (none, μ3) := c1
  obtain ⟨s1, F1, m1, -⟩ := c3.kind (k := (σ.1.2.1 c).1) hc
  have es : (((wkS (tS σ c j' W' l' m') σ).1.1, updf (wkS (tS σ c j' W' l' m') σ).1.2.1 c ((σ.1.2.1 c).1, ((wkS (tS σ c j' W' l' m') σ).1.2.1 c).2), (wkS (tS σ c j' W' l' m') σ).1.2.2), (wkS (tS σ c j' W' l' m') σ).2) = σ := by
    show ((σ.1.1, updf (updf σ.1.2.1 c (j', (σ.1.2.1 c).2)) c ((σ.1.2.1 c).1, (updf σ.1.2.1 c (j', (σ.1.2.1 c).2) c).2), σ.1.2.2), σ.2) = σ
    rw [updf_at, updf_twice, updf_same (f := σ.1.2.1) (i := c) rfl]
  rw [es] at m1
  refine ⟨_, ?_, ((a2.fr.trans b2).trans c2).trans F1, m1⟩
  rw [a1]
  show jR (d + 452) 255 93 [.ref M, .int (N s), u2, .int (N c), .int (N 1), .int (N (σ.1.2.1 c).1), .int 0, u7] [] μ1 = _
  have b1 : jR (d + 452) 255 96 [.ref M, .int (N s), u2, .int (N c), .int (N 1), .int (N (σ.1.2.1 c).1), .int 0, .int 0] [] μ1 = _ := b1
  rw [b255_93, b1, b255_158]
  simp only [gI13, gR13, pI13, pR13, rv13, b4.1.k13, c1, if_true, Option.bind_some]
  show jR (d + 452) 255 162 [.ref M, .int (N s), u2, .int (N c), .int (N 1), .int (N (σ.1.2.1 c).1), .int _, .int i7] [] μ3 = _
  rw [b255_162]
  simp only [gI13, gR13, pI13, pR13, rv13, c3.1.k13, c3.1.fr.1, s1, if_true, Option.bind_some, rf_some]
/-- behind the tests -/
theorem tl_39 {i2 : Int32} {w : Nat} {u5 u6 u7 : Value} (h : MR μ M σ) (hw : WM σ) (hsh : ∀ x, x < 4 → (σ.2.2.2.2.2 x).1 = NEG ∨ (σ.2.2.2.2.2 x).1 = N 0 ∨ (σ.2.2.2.2.2 x).1 = N 1) (hs : s < 4) (hc : c < 3) (hw2 : w < 2) (hg : w = 0 → ∃ g, g < 4 ∧ i2 = N g) : ROP M (jR (d + 452) 255 39 [.ref M, .int (N s), .int i2, .int (N c), .int (N w), u5, u6, u7] [] μ) μ (if (σ.2.2.2.2.2 s).1 = NEG then (aGONE, σ) else if 8 < (σ.2.2.2.2.2 s).2.length then (aBAD, σ) else if w = 0 then (fstO (σ.1.1 i2.toNatClampNeg) c (σ.2.2.2.2.2 s).2 0, σ) else (((pRt σ (σ.2.2.2.2.2 s).2 c 6).map N).getD aFULL, σ)) := by
  have hq := h.1
  have k13 := hq.k13
  obtain ⟨q52, q53, q54, q55, e6, e7, e8, k8⟩ := hq.sh hs
  obtain ⟨s1, s2, s3, s4⟩ := h.2.2.2.2.2.2.2.2.2 s hs
  rw [s1] at e6
  rw [s3] at e7
  rw [b255_39]
  simp only [gI13, gR13, pI13, pR13, rv13, k13, q52, e6, if_true, Option.bind_some, rf_some]
  by_cases en : (σ.2.2.2.2.2 s).1 = NEG
  · rw [if_pos en, en, if_pos (by decide)]
    exact ⟨μ, rfl, FR.refl, h⟩
  · rw [if_neg en]
    have nn : ¬ (σ.2.2.2.2.2 s).1 < 0 := by
      rcases hsh s hs with z | z | z
      · exact absurd z en
      · rw [z]; decide
      · rw [z]; decide
    rw [if_neg nn]
    simp only [q53, e7, if_true, Option.bind_some, rf_some]
    by_cases e8 : 8 < (σ.2.2.2.2.2 s).2.length
    · rw [if_pos e8, if_pos (show 8 < N (σ.2.2.2.2.2 s).2.length by show N 8 < N _; rw [N_lt (by decide) (by omega)]; exact e8)]
      exact ⟨μ, rfl, FR.refl, h⟩
    · rw [if_neg e8, if_neg (show ¬ 8 < N (σ.2.2.2.2.2 s).2.length by show ¬ N 8 < N _; rw [N_lt (by decide) (by omega)]; exact e8)]
      by_cases ew : w = 0
      · obtain ⟨g, hg4, rfl⟩ := hg ew
        subst ew
        obtain ⟨μ', o1, o2, o3⟩ := r_other (d := d) (s := s) (g := g) (c := c) h hs hg4 hc (by omega)
        rw [if_pos (show N 0 = 0 from rfl), if_pos rfl, N_nat (by omega)]
        refine ⟨μ', ?_, o2.fn.fr, o3⟩
        simp only [o1, if_true, Option.bind_some]
        exact b255_77 ..
      · have ew : w = 1 := by omega
        subst ew
        obtain ⟨r1, r2⟩ := h.2.2.2.1 c hc
        obtain ⟨q6, q7, k27, k28⟩ := hq.fr
        have g1 := ent_get (μ := μ) k27.1 k27.2 hc (by decide)
        rw [r1] at g1
        rw [if_neg (show ¬ N 1 = 0 by decide), if_neg (by decide)]
        simp only [q6, g1, if_true, Option.bind_some, rf_some]
        exact r_rulesTold (u2 := .int i2) (u5 := u5) (u6 := u6) (u7 := u7) h hw hs hc (by omega)
theorem p_tells (h : MR μ M σ) (hw : WM σ) (hsh : ∀ x, x < 4 → (σ.2.2.2.2.2 x).1 = NEG ∨ (σ.2.2.2.2.2 x).1 = N 0 ∨ (σ.2.2.2.2.2 x).1 = N 1) (s g c w : Int32) : ROP M (jC (d + 452) 255 [.ref M, .int s, .int g, .int c, .int w] μ) μ (o_tells σ s g c w) := by
  have hq := h.1
  have k13 := hq.k13
  have rs : jC (d + 451) 256 [.int s] μ = some (some (.int (okI (ix 4 s))), μ) := r_sort (d := d + 450) (μ := μ) s
  have rg : jC (d + 451) 170 [.int g] μ = some (some (.int (okI (ix 4 g))), μ) := r_grid (d := d + 450) (μ := μ) g
  have rc : jC (d + 451) 171 [.int c] μ = some (some (.int (okI (ix 3 c))), μ) := r_col (d := d + 450) (μ := μ) c
  have rw1 : jC (d + 451) 165 [.int w, .int 0, .int 1] μ = some (some (.int (okI (ix 2 w))), μ) := r_in (n := 2) (by decide) w
  have bad : ∀ u v z, jR (d + 452) 255 36 [.ref M, .int s, .int g, .int c, .int w, u, v, z] [] μ = some (some (.int aBAD), μ) := fun u v z => b255_36 ..
  have st : jC (d + 452) 255 [.ref M, .int s, .int g, .int c, .int w] μ = jR (d + 452) 255 4 [.ref M, .int s, .int g, .int c, .int w, .retAddr 0, .retAddr 0, .retAddr 0] [.int (okI (ix 4 s))] μ := by
    rw [jC_run (by decide)]
    show jR (d + 452) 255 0 [.ref M, .int s, .int g, .int c, .int w, .retAddr 0, .retAddr 0, .retAddr 0] [] μ = _
    rw [b255_0, rs]
    rfl
  rw [st, b255_4]
  unfold o_tells
  cases es : ix 4 s with
  | none =>
    rw [if_pos (by rw [okI_0])]
    exact ⟨μ, bad _ _ _, FR.refl, h⟩
  | some s =>
    obtain ⟨rfl, hs⟩ := ix_some (by decide) es
    rw [if_neg (by rw [okI_0]; simp), rc]
    show ROP M (jR (d + 452) 255 11 [.ref M, .int (N s), .int g, .int c, .int w, .retAddr 0, .retAddr 0, .retAddr 0] [.int (okI (ix 3 c))] μ) μ _
    rw [b255_11]
    cases ec : ix 3 c with
    | none =>
      rw [if_pos (by rw [okI_0])]
      exact ⟨μ, bad _ _ _, FR.refl, h⟩
    | some c =>
      obtain ⟨rfl, hc⟩ := ix_some (by decide) ec
      rw [if_neg (by rw [okI_0]; simp), rw1]
      show ROP M (jR (d + 452) 255 21 [.ref M, .int (N s), .int g, .int (N c), .int w, .retAddr 0, .retAddr 0, .retAddr 0] [.int (okI (ix 2 w))] μ) μ _
      rw [b255_21]
      cases ew : ix 2 w with
      | none =>
        rw [if_pos (by rw [okI_0])]
        exact ⟨μ, bad _ _ _, FR.refl, h⟩
      | some w =>
        obtain ⟨rfl, hw2⟩ := ix_some (by decide) ew
        rw [if_neg (by rw [okI_0]; simp)]
        cases eg : ix 4 g with
        | none =>
          by_cases e0 : w = 0
          · subst e0
            rw [if_pos (show N 0 = 0 from rfl), rg, eg]
            show ROP M (jR (d + 452) 255 33 [.ref M, .int (N s), .int g, .int (N c), .int (N 0), .retAddr 0, .retAddr 0, .retAddr 0] [.int (okI (none : Option Nat))] μ) μ (aBAD, σ)
            rw [b255_33, if_pos (by rw [okI_0])]
            exact ⟨μ, bad _ _ _, FR.refl, h⟩
          · have t := tl_39 (d := d) (i2 := g) (w := w) (u5 := .retAddr 0) (u6 := .retAddr 0) (u7 := .retAddr 0) h hw hsh hs hc hw2 (fun q => absurd q e0)
            rw [if_neg e0] at t
            rw [if_neg (show ¬ N w = 0 by show ¬ N w = N 0; rw [N_inj (by omega) (by decide)]; exact e0)]
            show ROP M _ μ (if w = 0 then (aBAD, σ) else if (σ.2.2.2.2.2 s).1 = NEG then (aGONE, σ) else if 8 < (σ.2.2.2.2.2 s).2.length then (aBAD, σ) else (((pRt σ (σ.2.2.2.2.2 s).2 c 6).map N).getD aFULL, σ))
            rw [if_neg e0]
            exact t
        | some g =>
          obtain ⟨rfl, hg⟩ := ix_some (by decide) eg
          have t := tl_39 (d := d) (i2 := N g) (w := w) (u5 := .retAddr 0) (u6 := .retAddr 0) (u7 := .retAddr 0) h hw hsh hs hc hw2 (fun _ => ⟨g, hg, rfl⟩)
          rw [N_nat (by omega)] at t
          by_cases e0 : w = 0
          · subst e0
            rw [if_pos (show N 0 = 0 from rfl), rg, eg]
            show ROP M (jR (d + 452) 255 33 [.ref M, .int (N s), .int (N g), .int (N c), .int (N 0), .retAddr 0, .retAddr 0, .retAddr 0] [.int (okI (some g))] μ) μ _
            rw [b255_33, if_neg (by rw [okI_0]; simp)]
            exact t
          · rw [if_neg (show ¬ N w = 0 by show ¬ N w = N 0; rw [N_inj (by omega) (by decide)]; exact e0)]
            exact t
end LAY
