/-! THE REFERENCE's CALLS: exchanged, whole -/
section LAY
variable {μ μ' μ'' ν : jM} {S S' : Nat → Prop} {T T' : Nat → Nat → Prop} {M g h t s n w d D i j k x y a b c f q p r : Nat} {A B C : GA} {σ τ : SG} {G : Nat → DG} {l l' : List CL} {W V : DG} {R : Nat → Nat × Nat}
theorem mco_cnt {x y : RC (Option Nat)} (hx : MCO μ D x) (hy : MCO μ D y) : cnt (rcm (mF μ) x) = cnt (rcm (mF μ) y) ↔ x.1 = y.1 ∧ (x.1 = N 0 ∨ (x.1 = N 1 ∧ x.2.1 = y.2.1) ∨ (x.1 = N 2 ∧ mF μ x.2.2.1 = mF μ y.2.2.1)) := by
  obtain ⟨x1, x2, x3, x4⟩ := x
  obtain ⟨y1, y2, y3, y4⟩ := y
  show (x1, x2, mF μ x3) = (y1, y2, mF μ y3) ↔ x1 = y1 ∧ (x1 = N 0 ∨ (x1 = N 1 ∧ x2 = y2) ∨ (x1 = N 2 ∧ mF μ x3 = mF μ y3))
  constructor
  · intro e
    have e1 : x1 = y1 := congrArg (fun p : Int32 × Int32 × List Tk => p.1) e
    have e2 : x2 = y2 := congrArg (fun p : Int32 × Int32 × List Tk => p.2.1) e
    have e3 : mF μ x3 = mF μ y3 := congrArg (fun p : Int32 × Int32 × List Tk => p.2.2) e
    refine ⟨e1, ?_⟩
    rcases hx with ⟨h1, -⟩ | ⟨h1, -⟩ | ⟨h1, -⟩
    · exact Or.inl h1
    · exact Or.inr (Or.inl ⟨h1, e2⟩)
    · exact Or.inr (Or.inr ⟨h1, e3⟩)
  · rintro ⟨e1, e⟩
    subst e1
    rcases hx with ⟨h1, h2, h3⟩ | ⟨h1, h3⟩ | ⟨h1, h2, -⟩
    · have h1 : x1 = N 0 := h1
      have h2 : x2 = N 0 := h2
      have h3 : x3 = none := h3
      subst h1 h2 h3
      rcases hy with ⟨-, g2, g3⟩ | ⟨g1, -⟩ | ⟨g1, -⟩
      · have g2 : y2 = N 0 := g2
        have g3 : y3 = none := g3
        rw [g2, g3]
      · exact absurd (show N 0 = N 1 from g1) (by decide)
      · exact absurd (show N 0 = N 2 from g1) (by decide)
    · have h1 : x1 = N 1 := h1
      have h3 : x3 = none := h3
      subst h1 h3
      rcases hy with ⟨g1, -⟩ | ⟨-, g3⟩ | ⟨g1, -⟩
      · exact absurd (show N 1 = N 0 from g1) (by decide)
      · have g3 : y3 = none := g3
        rw [g3]
        rcases e with e | ⟨-, e⟩ | ⟨e, -⟩
        · exact absurd e (by decide)
        · rw [e]
        · exact absurd e (by decide)
      · exact absurd (show N 1 = N 2 from g1) (by decide)
    · have h1 : x1 = N 2 := h1
      have h2 : x2 = N 0 := h2
      subst h1 h2
      rcases hy with ⟨g1, -⟩ | ⟨g1, -⟩ | ⟨-, g2, -⟩
      · exact absurd (show N 2 = N 0 from g1) (by decide)
      · exact absurd (show N 2 = N 1 from g1) (by decide)
      · have g2 : y2 = N 0 := g2
        rw [g2]
        rcases e with e | ⟨e, -⟩ | ⟨-, e⟩
        · exact absurd e (by decide)
        · exact absurd e (by decide)
        · rw [e]
theorem un_cell {u5 u6 u7 : Value} (h : MR μ M σ) (ho : OT μ M W) (hr : r < W.length) (hp : lfind (keyO W r) (σ.1.1 3) = some p) (hc : c < 3) : ∃ v5 v6 v7, jR (d + 1) 248 27 [.ref M, .int (N (unls W (σ.1.1 3) (r * 3 + c))), .int (N r), .int (N p), .int (N c), u5, u6, u7] [] μ = jR (d + 1) 248 27 [.ref M, .int (N (unls W (σ.1.1 3) (r * 3 + (c + 1)))), .int (N r), .int (N p), .int (N (c + 1)), v5, v6, v7] [] μ := by
  have hq := h.1
  have k13 := hq.k13
  obtain ⟨o1, o2, o3⟩ := ho
  obtain ⟨⟨q44, q45, q46, q47⟩, k1, k2, k3, k4⟩ := hq.oth
  have hpl := lfind_lt hp
  obtain ⟨p8, cy, my⟩ := h.cell (g := 3) (by decide) hc hpl
  obtain ⟨mx, cx⟩ := (o3 r hr).2 c hc
  have ue : unlk W (σ.1.1 3) (r * 3 + c) ↔ ¬ cnt (rcm (mF μ) (xO μ M (r * 3 + c))) = cnt (rcm (mF μ) (rc μ (mA M 3) (p * 3 + c))) := by
    unfold unlk
    rw [show (r * 3 + c) / 3 = r by omega, show (r * 3 + c) % 3 = c by omega, hp, cy, cx]
  rw [mco_cnt mx my] at ue
  have gk := hq.gk (g := 3) (by decide)
  have gr := hq.gr (g := 3) (by decide)
  have g2 : jaR μ (.ref (M + 7)) 3 = some (.ref (M + 8 + 3)) := gr.2.1
  have g3 : jaR μ (.ref (M + 12)) 3 = some (.ref (M + 13 + 3)) := gr.2.2.1
  have g5 : jaR μ (.ref (M + 22)) 3 = some (.ref (M + 23 + 3)) := gr.2.2.2.2.1
  have a1 := ent_get (μ := μ) (i := r * 3 + c) k2.1 k2.2 (by omega) (by decide)
  have a2 := ent_get (μ := μ) (i := p * 3 + c) gk.2.1.1 gk.2.1.2 (by omega) (by decide)
  have a3 := ent_get (μ := μ) (i := r * 3 + c) k3.1 k3.2 (by omega) (by decide)
  have a4 := ent_get (μ := μ) (i := p * 3 + c) gk.2.2.1.1 gk.2.2.1.2 (by omega) (by decide)
  have a5 := refGet' (μ := μ) (a := M + 414) (i := r * 3 + c) (by rw [k4.1]; decide) k4.2 (by omega) (by decide)
  have a6 := refGet' (μ := μ) (a := M + 23 + 3) (i := p * 3 + c) (by rw [gk.2.2.2.2.1.1]; decide) gk.2.2.2.2.1.2 (by omega) (by decide)
  have ex : (3 : Int32) * N r + N c = N (r * 3 + c) := by rw [show (3 : Int32) = N 3 from rfl, N_mul, N_add, Nat.mul_comm 3]
  have ey : (3 : Int32) * N p + N c = N (p * 3 + c) := by rw [show (3 : Int32) = N 3 from rfl, N_mul, N_add, Nat.mul_comm 3]
  have up : unls W (σ.1.1 3) (r * 3 + c) ≤ r * 3 + c := unls_le _ _ _
  -- alike, unlike
  have yes : ¬ unlk W (σ.1.1 3) (r * 3 + c) → ∀ v7 : Value, jR (d + 1) 248 133 [.ref M, .int (N (unls W (σ.1.1 3) (r * 3 + c))), .int (N r), .int (N p), .int (N c), .int (N (r * 3 + c)), .int (N (p * 3 + c)), v7] [] μ = jR (d + 1) 248 27 [.ref M, .int (N (unls W (σ.1.1 3) (r * 3 + (c + 1)))), .int (N r), .int (N p), .int (N (c + 1)), .int (N (r * 3 + c)), .int (N (p * 3 + c)), .int 1] [] μ := by
    intro hu v7
    rw [b248_133, b248_138, if_neg (by decide), b248_148, show (1 : Int32) = N 1 from rfl, N_add, show r * 3 + (c + 1) = r * 3 + c + 1 by omega, unls_neg hu]
  have no : unlk W (σ.1.1 3) (r * 3 + c) → ∀ v7 : Value, jR (d + 1) 248 137 [.ref M, .int (N (unls W (σ.1.1 3) (r * 3 + c))), .int (N r), .int (N p), .int (N c), .int (N (r * 3 + c)), .int (N (p * 3 + c)), v7] [] μ = jR (d + 1) 248 27 [.ref M, .int (N (unls W (σ.1.1 3) (r * 3 + (c + 1)))), .int (N r), .int (N p), .int (N (c + 1)), .int (N (r * 3 + c)), .int (N (p * 3 + c)), .int 0] [] μ := by
    intro hu v7
    rw [b248_137, b248_138, if_pos rfl, b248_148, show (1 : Int32) = N 1 from rfl, N_add, N_add, show r * 3 + (c + 1) = r * 3 + c + 1 by omega, unls_pos hu]
  have x1 : (xO μ M (r * 3 + c)).1 = jiv μ (M + 412) (r * 3 + c) := rfl
  have y1 : (rc μ (mA M 3) (p * 3 + c)).1 = jiv μ (M + 8 + 3) (p * 3 + c) := rfl
  have x2 : (xO μ M (r * 3 + c)).2.1 = jiv μ (M + 413) (r * 3 + c) := rfl
  have y2 : (rc μ (mA M 3) (p * 3 + c)).2.1 = jiv μ (M + 13 + 3) (p * 3 + c) := rfl
  have x3 : (xO μ M (r * 3 + c)).2.2.1 = jrv μ (M + 414) (r * 3 + c) := rfl
  have y3 : (rc μ (mA M 3) (p * 3 + c)).2.2.1 = jrv μ (M + 23 + 3) (p * 3 + c) := rfl
  rw [x1, y1, x2, y2, x3, y3] at ue
  rw [b248_27, if_pos (by show N c < N 3; rw [N_lt (by omega) (by decide)]; omega)]
  simp only [gI13, gR13, pI13, pR13, rv13, k13, q45, q46, q47, hq.f.2.2.1, hq.f.2.2.2.1, hq.f.2.2.2.2.2, g2, g3, g5, ex, ey, a1, a2, a3, a4, a5, a6, if_true, Option.bind_some, rf_some]
  by_cases ek : jiv μ (M + 412) (r * 3 + c) = jiv μ (M + 8 + 3) (p * 3 + c)
  · rw [if_pos ek]
    by_cases e0 : jiv μ (M + 412) (r * 3 + c) = N 0
    · rw [if_pos (show jiv μ (M + 412) (r * 3 + c) = 0 from e0)]
      exact ⟨_, _, _, yes (fun q => ue.mp q ⟨ek, Or.inl e0⟩) _⟩
    · rw [if_neg (show ¬ jiv μ (M + 412) (r * 3 + c) = 0 from e0)]
      by_cases e1 : jiv μ (M + 412) (r * 3 + c) = N 1
      · rw [if_pos (show jiv μ (M + 412) (r * 3 + c) = 1 from e1)]
        by_cases ev : jiv μ (M + 413) (r * 3 + c) = jiv μ (M + 13 + 3) (p * 3 + c)
        · rw [if_pos ev]
          exact ⟨_, _, _, yes (fun q => ue.mp q ⟨ek, Or.inr (Or.inl ⟨e1, ev⟩)⟩) _⟩
        · rw [if_neg ev]
          refine ⟨_, _, _, no (ue.mpr ?_) _⟩
          rintro ⟨-, q | ⟨-, q⟩ | ⟨q, -⟩⟩
          · exact e0 q
          · exact ev q
          · rw [e1] at q; exact absurd q (by decide)
      · rw [if_neg (show ¬ jiv μ (M + 412) (r * 3 + c) = 1 from e1)]
        rcases mx with ⟨m1, -⟩ | ⟨m1, -⟩ | ⟨m1, m2, f, ef, m3, m4⟩
        · exact absurd m1 e0
        · exact absurd m1 e1
        · rcases my with ⟨n1, -⟩ | ⟨n1, -⟩ | ⟨n1, n2, f', ef', n3, n4⟩
          · exact absurd (ek.trans n1) e0
          · exact absurd (ek.trans n1) e1
          · rw [x3] at m3
            rw [y3] at n3
            have f1 : mF μ (jrv μ (M + 414) (r * 3 + c)) = tks ef := by rw [m3]; exact m4.tk
            have f2 : mF μ (jrv μ (M + 23 + 3) (p * 3 + c)) = tks ef' := by rw [n3]; exact n4.tk
            have t3 := r_same (d := d) m4 n4
            rw [f1, f2] at ue
            rw [m3, n3]
            simp only [rf_some, t3, Option.bind_some]
            show ∃ v5 v6 v7, jR (d + 1) 248 130 [.ref M, .int (N (unls W (σ.1.1 3) (r * 3 + c))), .int (N r), .int (N p), .int (N c), .int (N (r * 3 + c)), .int (N (p * 3 + c)), u7] [.int (pN (tks ef = tks ef'))] μ = _
            rw [b248_130]
            by_cases et : tks ef = tks ef'
            · rw [pN_pos et, if_neg (show ¬ N 1 = 0 by decide)]
              exact ⟨_, _, _, yes (fun q => ue.mp q ⟨ek, Or.inr (Or.inr ⟨m1, et⟩)⟩) _⟩
            · rw [pN_neg et, if_pos (show N 0 = 0 from rfl)]
              refine ⟨_, _, _, no (ue.mpr ?_) _⟩
              rintro ⟨-, q | ⟨q, -⟩ | ⟨-, q⟩⟩
              · exact e0 q
              · exact e1 q
              · exact et q
  · rw [if_neg ek]
    exact ⟨_, _, _, no (ue.mpr (fun q => ek q.1)) _⟩
theorem r_unlike (h : MR μ M σ) (ho : OT μ M W) (hk : ∀ i, i < W.length → lfind (keyO W i) (σ.1.1 3) ≠ none) : jC (d + 1) 248 [.ref M] μ = some (some (.int (N (unls W (σ.1.1 3) (W.length * 3)))), μ) := by
  have hq := h.1
  have k13 := hq.k13
  obtain ⟨o1, o2, o3⟩ := id ho
  obtain ⟨⟨q44, q45, q46, q47⟩, k1, k2, k3, k4⟩ := hq.oth
  have H1 := (h.gq (g := 3) (by decide)).1
  have loop : ∀ (m r : Nat) (u3 u4 u5 u6 u7 : Value), r + m = W.length → jR (d + 1) 248 4 [.ref M, .int (N (unls W (σ.1.1 3) (r * 3))), .int (N r), u3, u4, u5, u6, u7] [] μ = some (some (.int (N (unls W (σ.1.1 3) (W.length * 3)))), μ) := by
    intro m
    induction m with
    | zero =>
      intro r u3 u4 u5 u6 u7 hr
      have : r = W.length := by omega
      subst this
      rw [b248_4]
      simp only [gI13, gR13, pI13, pR13, rv13, k13, if_true, Option.bind_some, o1]
      rw [if_neg (by rw [N_lt (by omega) (by omega)]; omega)]
    | succ m ih =>
      intro r u3 u4 u5 u6 u7 hr
      obtain ⟨p, hp⟩ := Option.ne_none_iff_exists'.mp (hk r (by omega))
      have e1 := ent_get (μ := μ) (i := r) k1.1 k1.2 (by omega) (by decide)
      rw [(o3 r (by omega)).1] at e1
      have p3 := r_placeOf (d := d) hq H1 (keyO W r)
      rw [← lfind_dM, (h.2.2.1 3 (by decide)).2, hp] at p3
      have p3 : jC d 194 [.ref M, .int 3, .int (keyO W r)] μ = some (some (.int (N p)), μ) := p3
      have st : jR (d + 1) 248 4 [.ref M, .int (N (unls W (σ.1.1 3) (r * 3))), .int (N r), u3, u4, u5, u6, u7] [] μ = jR (d + 1) 248 27 [.ref M, .int (N (unls W (σ.1.1 3) (r * 3 + 0))), .int (N r), .int (N p), .int (N 0), u5, u6, u7] [] μ := by
        rw [b248_4]
        simp only [gI13, gR13, pI13, pR13, rv13, k13, if_true, Option.bind_some, o1]
        rw [if_pos (by rw [N_lt (by omega) (by omega)]; omega)]
        simp only [gI13, gR13, pI13, pR13, rv13, k13, q44, e1, p3, if_true, Option.bind_some, rf_some]
        show jR (d + 1) 248 23 [.ref M, .int (N (unls W (σ.1.1 3) (r * 3))), .int (N r), u3, u4, u5, u6, u7] [.int (N p)] μ = _
        rw [b248_23]
        rfl
      obtain ⟨v5, v6, v7, s0⟩ := un_cell (d := d) (u5 := u5) (u6 := u6) (u7 := u7) h ho (show r < W.length by omega) hp (show 0 < 3 by decide)
      obtain ⟨w5, w6, w7, s1⟩ := un_cell (d := d) (u5 := v5) (u6 := v6) (u7 := v7) h ho (show r < W.length by omega) hp (show 1 < 3 by decide)
      obtain ⟨y5, y6, y7, s2⟩ := un_cell (d := d) (u5 := w5) (u6 := w6) (u7 := w7) h ho (show r < W.length by omega) hp (show 2 < 3 by decide)
      rw [st, s0, s1, s2, b248_27, if_neg (by decide), show (1 : Int32) = N 1 from rfl, N_add, show r * 3 + (2 + 1) = (r + 1) * 3 by omega]
      exact ih (r + 1) _ _ _ _ _ (by omega)
  rw [jC_run (by decide)]
  show jR (d + 1) 248 0 [.ref M, .retAddr 0, .retAddr 0, .retAddr 0, .retAddr 0, .retAddr 0, .retAddr 0, .retAddr 0] [] μ = _
  rw [b248_0]
  exact loop W.length 0 _ _ _ _ _ (by omega)
theorem keepK_sym {gb gx gt : DG} {k : Int32} : keepK gb gx gt k ↔ keepK gb gt gx k := by
  unfold keepK
  cases lfind k gx <;> cases lfind k gt <;> exact Iff.rfl
theorem wf_mem {gb gx gt Wf : DG} {k : Int32} (l8 : gx.length ≤ 8) (h : thW gb gx gt (gt.map fun w => w.1) (mineW gb gx gt gx) 0 = some Wf) : k ∈ ky1 Wf ↔ keepK gb gx gt k := by
  obtain ⟨a1, a2, a3⟩ := thW_some _ _ _ _ (Nat.zero_le _) (Nat.le_trans mineW_len l8) h
  rw [a2, ky1_mine, List.mem_filter, keepB_iff]
  constructor
  · rintro (⟨-, q⟩ | ⟨-, q⟩)
    · exact q
    · unfold inB at q
      exact keepB_iff.mp ((Bool.and_eq_true _ _).mp q).2
  · intro q
    by_cases e : k ∈ ky1 gx
    · exact Or.inl ⟨e, q⟩
    · refine Or.inr ⟨?_, ?_⟩
      · rcases keepK_in q with z | z
        · exact absurd (lfind_nin.mpr e) z
        · exact Classical.byContradiction fun n => z (lfind_nin.mpr n)
      · unfold inB
        rw [lfind_nin.mpr e, keepB_iff.mpr q]; rfl
theorem mg_mem {gb gx gt : DG} {k : Int32} {R : Nat → Nat × Nat} {W : DG × List CL} (l8 : gx.length ≤ 8) (h : pMerge R gb gx gt = some W) : k ∈ ky1 W.1 ↔ keepK gb gx gt k := by
  unfold pMerge at h
  cases et : thW gb gx gt (gt.map fun w => w.1) (mineW gb gx gt gx) 0 with
  | none => rw [et] at h; cases h
  | some Wf =>
    rw [et] at h
    cases h
    rw [← wf_mem l8 et]
    show k ∈ ky1 (pRows _ _ _ _ _ 99) ↔ _
    rw [show ky1 (pRows R gb gx gt Wf 99) = ky1 Wf from keys_pRows 99]
end LAY
