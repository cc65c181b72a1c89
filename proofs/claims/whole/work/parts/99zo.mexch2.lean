/-! THE REFERENCE's CALLS: exchanged, the call -/
section LAY
variable {μ μ' μ'' ν : jM} {S S' : Nat → Prop} {T T' : Nat → Nat → Prop} {M g h t s n w d D i j k x y a b c f q p r : Nat} {A B C : GA} {σ τ : SG} {G : Nat → DG} {l l' : List CL} {W V : DG} {R : Nat → Nat × Nat}
theorem ky1_len {l : DG} : (ky1 l).length = l.length := List.length_map ..
theorem key_mem {l : DG} (hi : i < l.length) : keyO l i ∈ ky1 l := by
  unfold keyO
  rw [List.getElem?_eq_getElem hi]
  exact List.mem_map_of_mem (List.getElem_mem hi)
/-- awake at the end, with an answer -/
theorem ex_end {v : Int32} (h : MR μ M σ) (hT : TH μ M τ) (e : wkS σ τ = τ) : ∃ μ', jR (d + 6) 245 48 [.ref M, .int v] [] μ = some (some (.int v), μ') ∧ FR M μ μ' ∧ MR μ' M τ := by
  obtain ⟨μ', w1, w2, w3⟩ := r_wake (d := d + 3) h hT
  rw [e] at w3
  refine ⟨μ', ?_, w2, w3⟩
  rw [b245_48]
  simp only [gI13, gR13, pI13, pR13, rv13, h.1.k13, w1, if_true, Option.bind_some]
  exact b245_52 ..
/-- one's own and the other's exchanged, through the fourth -/
theorem ex_swap {i1 : Int32} (h : MR μ M σ) (hT : TH μ M τ) (hO : OT μ M W) : ∃ μ', jR (d + 6) 245 18 [.ref M, .int i1] [] μ = jR (d + 6) 245 36 [.ref M, .int i1] [] μ' ∧ FR M μ μ' ∧ MR μ' M (stg (stg (stg σ 3 (σ.1.1 2)) 2 (σ.1.1 1)) 1 (σ.1.1 2)) ∧ TH μ' M τ ∧ OT μ' M W := by
  obtain ⟨μ1, a1, a2, a3⟩ := h.copyg (d := d + 3) (g := 2) (w := 3) (by decide) (by decide) (by decide)
  obtain ⟨μ2, b1, b2, b3⟩ := a3.copyg (d := d + 3) (g := 1) (w := 2) (by decide) (by decide) (by decide)
  obtain ⟨μ3, c1, c2, c3⟩ := b3.copyg (d := d + 3) (g := 3) (w := 1) (by decide) (by decide) (by decide)
  have a1 : jC (d + 5) 207 [.ref M, .int 2, .int 3] μ = _ := a1
  have b1 : jC (d + 5) 207 [.ref M, .int 1, .int 2] μ1 = _ := b1
  have c1 : jC (d + 5) 207 [.ref M, .int 3, .int 1] μ2 = _ := c1
  refine ⟨μ3, ?_, ((a2.fr (by decide)).trans (b2.fr (by decide))).trans (c2.fr (by decide)), c3, ((hT.f1 (by decide) a2).f1 (by decide) b2).f1 (by decide) c2, ((hO.f1 (by decide) a2).f1 (by decide) b2).f1 (by decide) c2⟩
  rw [b245_18]
  simp only [gI13, gR13, pI13, pR13, rv13, h.1.k13, a1, if_true, Option.bind_some]
  show jR (d + 6) 245 24 [.ref M, .int i1] [] μ1 = _
  rw [b245_24]
  simp only [gI13, gR13, pI13, pR13, rv13, a3.1.k13, b1, if_true, Option.bind_some]
  show jR (d + 6) 245 30 [.ref M, .int i1] [] μ2 = _
  rw [b245_30]
  simp only [gI13, gR13, pI13, pR13, rv13, b3.1.k13, c1, if_true, Option.bind_some]
  rfl
theorem ex_second (h : MR μ M σ) (hT : TH μ M τ) (hO : OT μ M W) (hw : WM σ) (hwk : ∀ (X : DG) (l : List CL) (m : Bool), wkS (scl (stg σ 3 X) l m) τ = τ) (hwk0 : wkS σ τ = τ) (hk : ∀ V, pMerge σ.1.2.1 (σ.1.1 0) (σ.1.1 1) (σ.1.1 2) = some V → ∀ i, i < W.length → lfind (keyO W i) V.1 ≠ none) : ∃ μ', jR (d + 6) 245 36 [.ref M, .int aFULL] [] μ = some (some (.int (match pMerge σ.1.2.1 (σ.1.1 0) (σ.1.1 1) (σ.1.1 2) with | some V => N (unls W V.1 (W.length * 3)) | none => aFULL)), μ') ∧ FR M μ μ' ∧ MR μ' M τ := by
  have mg := r_merges (d := d) (R := σ.1.2.1) h.gg ⟨h.2.2.2.1, hw.1⟩ h.k3 (hw.2 1 (by decide)).1 (hw.2 2 (by decide)).1 (hw.2 1 (by decide)).2 (hw.2 2 (by decide)).2
  rw [b245_36]
  rcases mg with ⟨m1, m2⟩ | ⟨V, μ1, m1, m2, m3, m4, m5, m6, m7⟩
  · rw [m1]
    obtain ⟨μ', w1, w2, w3⟩ := ex_end (d := d) (v := aFULL) h hT hwk0
    refine ⟨μ', ?_, w2, w3⟩
    simp only [gI13, gR13, pI13, pR13, rv13, h.1.k13, m2, if_true, Option.bind_some]
    show jR (d + 6) 245 40 [.ref M, .int aFULL] [.int (N 0)] μ = _
    rw [b245_40, if_pos (show N 0 = 0 from rfl)]
    exact w1
  · have m8 := h.me m3 m4 m5 m6
    have un := r_unlike (d := d + 4) m8 (hO.me m3) (hk V m1)
    obtain ⟨μ', w1, w2, w3⟩ := ex_end (d := d) (v := N (unls W V.1 (W.length * 3))) m8 (hT.me m3) (hwk _ _ _)
    rw [m1]
    refine ⟨μ', ?_, m3.fr.trans w2, w3⟩
    simp only [gI13, gR13, pI13, pR13, rv13, h.1.k13, m2, if_true, Option.bind_some]
    show jR (d + 6) 245 40 [.ref M, .int aFULL] [.int (N 1)] μ1 = _
    rw [b245_40, if_neg (show ¬ N 1 = 0 by decide)]
    have un : jC (d + 5) 248 [.ref M] μ1 = some (some (.int (N (unls W V.1 (W.length * 3)))), μ1) := un
    simp only [gI13, gR13, pI13, pR13, rv13, m8.1.k13, un, if_true, Option.bind_some]
    show jR (d + 6) 245 47 [.ref M, .int aFULL] [.int (N (unls W V.1 (W.length * 3)))] μ1 = _
    rw [b245_47]
    exact w1
theorem p_exch (h : MR μ M σ) (hw : WM σ) : ROP M (jC (d + 6) 245 [.ref M] μ) μ (o_exch σ) := by
  obtain ⟨μ1, a1, a2, a3, a4⟩ := r_think (d := d + 3) h
  have mg := r_merges (d := d) (R := σ.1.2.1) a3.gg ⟨a3.2.2.2.1, hw.1⟩ a3.k3 (hw.2 1 (by decide)).1 (hw.2 2 (by decide)).1 (hw.2 1 (by decide)).2 (hw.2 2 (by decide)).2
  have l1 := (h.gq (g := 1) (by decide)).2.2.2
  have l2 := (h.gq (g := 2) (by decide)).2.2.2
  have st : jC (d + 6) 245 [.ref M] μ = (jC (d + 5) 225 [.ref M] μ1).bind fun p1 => jR (d + 6) 245 11 [.ref M, .int aFULL] (p1.1.toList ++ []) p1.2 := by
    rw [jC_run (by decide)]
    show jR (d + 6) 245 0 [.ref M, .retAddr 0] [] μ = _
    rw [b245_0]
    simp only [gI13, gR13, pI13, pR13, rv13, h.1.k13, a1, if_true, Option.bind_some]
    show jR (d + 6) 245 4 [.ref M, .retAddr 0] [] μ1 = _
    rw [b245_4]
    simp only [gI13, gR13, pI13, pR13, rv13, a3.1.k13, if_true, decide_true]
    rfl
  unfold o_exch
  rw [st]
  rcases mg with ⟨m1, m2⟩ | ⟨W, μ2, m1, m2, m3, m4, m5, m6, m7⟩
  · rw [m1]
    obtain ⟨μ', w1, w2, w3⟩ := ex_end (d := d) (v := aFULL) a3 a4 rfl
    refine ⟨μ', ?_, a2.fr.trans w2, w3⟩
    simp only [m2, Option.bind_some]
    show jR (d + 6) 245 11 [.ref M, .int aFULL] [.int (N 0)] μ1 = _
    rw [b245_11, if_pos (show N 0 = 0 from rfl)]
    exact w1
  · have m8 := a3.me m3 m4 m5 m6
    have t8 := a4.me m3
    obtain ⟨μ3, b1, b2, b3, b4, b5⟩ := r_remember (d := d + 4) m8 t8
    have b5 : OT μ3 M W.1 := b5
    obtain ⟨μ4, c1, c2, c3, c4, c5⟩ := ex_swap (d := d) (i1 := aFULL) b3 b4 b5
    have hk : ∀ V, pMerge σ.1.2.1 (σ.1.1 0) (σ.1.1 2) (σ.1.1 1) = some V → ∀ i, i < W.1.length → lfind (keyO W.1 i) V.1 ≠ none := by
      intro V hV i hi q
      have m := (mg_mem (by omega) m1).mp (key_mem hi)
      exact (lfind_nin.mp q) ((mg_mem (by omega) hV).mpr (keepK_sym.mp m))
    have hw5 : WM (stg (stg (stg (scl (stg σ 3 W.1) W.2 σ.2.2.2.2.1) 3 (σ.1.1 2)) 2 (σ.1.1 1)) 1 (σ.1.1 2)) := by
      refine ⟨hw.1, fun g hg => ?_⟩
      rcases (show g = 0 ∨ g = 1 ∨ g = 2 ∨ g = 3 by omega) with rfl | rfl | rfl | rfl
      · exact hw.2 0 (by decide)
      · exact hw.2 2 (by decide)
      · exact hw.2 1 (by decide)
      · exact hw.2 2 (by decide)
    obtain ⟨μ5, e1, e2, e3⟩ := ex_second (d := d) (τ := σ) c3 c4 c5 hw5 (fun X l m => rfl) rfl hk
    have k13 := m8.1.k13
    have b1 : jC (d + 5) 247 [.ref M] μ2 = some (none, μ3) := b1
    have fin : jR (d + 6) 245 11 [.ref M, .int aFULL] [.int (N 1)] μ2 = some (some (.int (match pMerge σ.1.2.1 (σ.1.1 0) (σ.1.1 2) (σ.1.1 1) with | some V => N (unls W.1 V.1 (W.1.length * 3)) | none => aFULL)), μ5) := by
      rw [b245_11, if_neg (show ¬ N 1 = 0 by decide)]
      simp only [gI13, gR13, pI13, pR13, rv13, k13, b1, if_true, Option.bind_some]
      show jR (d + 6) 245 18 [.ref M, .int aFULL] [] μ3 = _
      rw [c1]
      exact e1
    rw [m1]
    have F : FR M μ μ5 := (((a2.fr.trans m3.fr).trans b2.fr).trans c2).trans e2
    simp only [m2, Option.bind_some]
    cases eV : pMerge σ.1.2.1 (σ.1.1 0) (σ.1.1 2) (σ.1.1 1) with
    | none =>
      rw [eV] at fin
      exact ⟨μ5, fin, F, e3⟩
    | some V =>
      rw [eV] at fin
      exact ⟨μ5, fin, F, e3⟩
end LAY
