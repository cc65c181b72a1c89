/-! THE REFERENCE's CALLS: exchanged -/
/-- a remembered cell -/
def xO (μ : jM) (M j : Nat) : RC (Option Nat) := (jiv μ (M + 412) j, jiv μ (M + 413) j, jrv μ (M + 414) j, N 0)
/-- what is remembered of a grid -/
def OT (μ : jM) (M : Nat) (W : DG) : Prop := jiv μ M 43 = N W.length ∧ W.length ≤ 8 ∧ ∀ i, i < W.length → jiv μ (M + 411) i = keyO W i ∧ ∀ c, c < 3 → CT μ M (xO μ M (i * 3 + c)) (cnt (cO [] W (some i) c))
section LAY
variable {μ μ' μ'' ν : jM} {S S' : Nat → Prop} {T T' : Nat → Nat → Prop} {M g h t s n w d D i j k x y a b c f q : Nat} {A B C : GA} {σ τ : SG} {G : Nat → DG} {l l' : List CL} {W V : DG} {R : Nat → Nat × Nat}
theorem OT.keep (h : OT μ M W) (F : Fx S T μ μ') (fd : FD (M + 424) μ μ') (hS : ∀ a, S a → ¬ (M + 411 ≤ a ∧ a < M + 414)) (hT : ∀ j, ¬ T (M + 414) j) (h43 : jiv μ' M 43 = jiv μ M 43) : OT μ' M W := by
  obtain ⟨a1, a2, a3⟩ := h
  have ex : ∀ j, xO μ' M j = xO μ M j := fun j => by
    unfold xO
    rw [F.iv (a := M + 412) (fun q => hS _ q (by omega)), F.iv (a := M + 413) (fun q => hS _ q (by omega)), F.rv (hT j)]
  refine ⟨by rw [h43]; exact a1, a2, fun i hi => ⟨?_, fun c hc => ?_⟩⟩
  · rw [F.iv (a := M + 411) (fun q => hS _ q (by omega))]; exact (a3 i hi).1
  · rw [ex]; exact ((a3 i hi).2 c hc).to fd
theorem OT.f1 (h : OT μ M W) (hg : g < 4) (F : FM1 M g μ μ') : OT μ' M W := h.keep F.1 (F.1.fd (fun a k => by
  have k : a = M + 1 ∨ SMg M g a := k
  unfold SMg at k; omega) (fun a j k => by
  have k : a = M + 23 + g := k
  omega)) (fun a k => by
  have k : a = M + 1 ∨ SMg M g a := k
  unfold SMg at k; omega) (fun j k => by
  have k : M + 414 = M + 23 + g := k
  omega) (congrFun (F.1.iv (by
  intro q
  have q : M = M + 1 ∨ SMg M g M := q
  unfold SMg at q; omega)) 43)
theorem OT.me (h : OT μ M W) (F : FMe M μ μ') : OT μ' M W := h.keep F.1 F.fd (fun a k => by unfold SMe SMg at k; omega) (fun j k => by
  have k : M + 414 = M + 23 + 3 := k
  omega) (F.2.2 43 (by decide))
/-- a main grid copied -/
theorem MR.copyg (h : MR μ M σ) (hg : g < 4) (hh : w < 4) (hne : g ≠ w) : ∃ μ', jC (d + 2) 207 [.ref M, .int (N g), .int (N w)] μ = some (none, μ') ∧ FM1 M w μ μ' ∧ MR μ' M (stg σ w (σ.1.1 g)) := by
  obtain ⟨H1, H2, H3, H4, H5⟩ := h.gq hg
  obtain ⟨J1, J2, J3, J4, J5⟩ := h.gq hh
  obtain ⟨μ', c1, F, q1, e1⟩ := r_copyGrid (d := d) h.1 H1 J1 hne
  have h2 := h.grid hh F q1 e1 H3
  rw [← H2] at h2
  exact ⟨μ', c1, F, h2⟩
/-- a cell of a main grid -/
theorem MR.cell (h : MR μ M σ) (hg : g < 4) (hc : c < 3) (hi : i < (σ.1.1 g).length) : i < 8 ∧ cO [] (σ.1.1 g) (some i) c = rcm (mF μ) (rc μ (mA M g) (i * 3 + c)) ∧ MCO μ (M + 424) (rc μ (mA M g) (i * 3 + c)) := by
  obtain ⟨z1, z2⟩ := h.2.2.1 g hg
  obtain ⟨H1, H2, H3, H4, H5⟩ := h.gq hg
  have e := cO_rc (μ := μ) (A := mA M g) (r0 := i) hc (by omega)
  have m := z1.2.cO (p := some i) (c := c)
  rw [e] at m
  refine ⟨by omega, ?_, m⟩
  rw [← z2, cO_dM, e]
/-- a key of a main grid -/
theorem MR.key (h : MR μ M σ) (hg : g < 4) (hi : i < (σ.1.1 g).length) : keyO (σ.1.1 g) i = jiv μ (M + 3 + g) i := by
  obtain ⟨H1, H2, H3, H4, H5⟩ := h.gq hg
  unfold keyO
  rw [H2, List.getElem?_map, show (rG μ (mA M g))[i]? = some (rowAt μ (mA M g) i) from RWN_get (n := vN μ (mA M g)) (by omega)]
  rfl
theorem QS.oth (hq : QS μ M) : (jrv μ M 44 = some (M + 411) ∧ jrv μ M 45 = some (M + 412) ∧ jrv μ M 46 = some (M + 413) ∧ jrv μ M 47 = some (M + 414)) ∧ (jk μ (M + 411) = 20 ∧ jl μ (M + 411) = 8) ∧ (jk μ (M + 412) = 20 ∧ jl μ (M + 412) = 24) ∧ (jk μ (M + 413) = 20 ∧ jl μ (M + 413) = 24) ∧ jk μ (M + 414) = 33 ∧ jl μ (M + 414) = 24 :=
  ⟨⟨hq.2.1 44 411 rfl, hq.2.1 45 412 rfl, hq.2.1 46 413 rfl, hq.2.1 47 414 rfl⟩, hq.kd (o := 411) (by decide) rfl, hq.kd (o := 412) (by decide) rfl, hq.kd (o := 413) (by decide) rfl, hq.kd (o := 414) (by decide) rfl⟩
/-- the fourth grid remembered -/
theorem r_remember (h : MR μ M σ) (hT : TH μ M τ) : ∃ μ', jC (d + 1) 247 [.ref M] μ = some (none, μ') ∧ FN M μ μ' ∧ MR μ' M σ ∧ TH μ' M τ ∧ OT μ' M (σ.1.1 3) := by
  have hq := h.1
  have k13 := hq.k13
  obtain ⟨H1, H2, H3, H4, H5⟩ := h.gq (g := 3) (by decide)
  have gk := hq.gk (g := 3) (by decide)
  have gr := hq.gr (g := 3) (by decide)
  have ro : jaI μ (.ref (M + 1)) 3 = some (jiv μ (M + 1) 3) := hq.ro (g := 3) (by decide)
  rw [H1.2.1, ← H4] at ro
  obtain ⟨hX, hX1⟩ : ∃ X, X = jsetI μ M 43 (N (σ.1.1 3).length) := ⟨_, rfl⟩
  have Xk : jk hX = jk μ := by subst hX1; rfl
  have Xl : jl hX = jl μ := by subst hX1; rfl
  have Xr : jrv hX = jrv μ := by subst hX1; rfl
  have XaR : ∀ a i, jaR hX (.ref a) i = jaR μ (.ref a) i := fun a i => by subst hX1; rfl
  have Xv : ∀ a, a ≠ M → jiv hX a = jiv μ a := fun a ha => by subst hX1; exact iv_setIn ha
  obtain ⟨⟨q44, q45, q46, q47⟩, k1, k2, k3, k4⟩ := hq.oth
  have c1 := cp_N (μ := hX) (a := M + 3 + 3) (b := M + 411) (sp := 0) (dp := 0) (n0 := 8) (by rw [Xk]; exact gk.1.1) (by rw [Xk]; exact k1.1) (by rw [Xl, gk.1.2]; decide) (by rw [Xl, k1.2]; decide) (by rw [Xl, gk.1.2]; decide) (by rw [Xl, k1.2]; decide)
  rw [Xv _ (by omega), Xv _ (by omega)] at c1
  generalize hf1 : va_cpy (jiv μ (M + 3 + 3)) (jiv μ (M + 411)) 0 0 8 = f1 at *
  have c2 := cp_N (μ := jrowI hX (M + 411) f1) (a := M + 8 + 3) (b := M + 412) (sp := 0) (dp := 0) (n0 := 24) (by show jk hX _ = 20; rw [Xk]; exact gk.2.1.1) (by show jk hX _ = 20; rw [Xk]; exact k2.1) (by show 0 + 24 ≤ jl hX _; rw [Xl, gk.2.1.2]; decide) (by show 0 + 24 ≤ jl hX _; rw [Xl, k2.2]; decide) (by show jl hX _ < _; rw [Xl, gk.2.1.2]; decide) (by show jl hX _ < _; rw [Xl, k2.2]; decide)
  rw [iv_rowIn (show ¬ M + 8 + 3 = M + 411 by omega), iv_rowIn (show ¬ M + 412 = M + 411 by omega), Xv _ (by omega), Xv _ (by omega)] at c2
  generalize hf2 : va_cpy (jiv μ (M + 8 + 3)) (jiv μ (M + 412)) 0 0 24 = f2 at *
  have c3 := cp_N (μ := jrowI (jrowI hX (M + 411) f1) (M + 412) f2) (a := M + 13 + 3) (b := M + 413) (sp := 0) (dp := 0) (n0 := 24) (by show jk hX _ = 20; rw [Xk]; exact gk.2.2.1.1) (by show jk hX _ = 20; rw [Xk]; exact k3.1) (by show 0 + 24 ≤ jl hX _; rw [Xl, gk.2.2.1.2]; decide) (by show 0 + 24 ≤ jl hX _; rw [Xl, k3.2]; decide) (by show jl hX _ < _; rw [Xl, gk.2.2.1.2]; decide) (by show jl hX _ < _; rw [Xl, k3.2]; decide)
  rw [iv_rowIn (show ¬ M + 13 + 3 = M + 412 by omega), iv_rowIn (show ¬ M + 13 + 3 = M + 411 by omega), iv_rowIn (show ¬ M + 413 = M + 412 by omega), iv_rowIn (show ¬ M + 413 = M + 411 by omega), Xv _ (by omega), Xv _ (by omega)] at c3
  generalize hf3 : va_cpy (jiv μ (M + 13 + 3)) (jiv μ (M + 413)) 0 0 24 = f3 at *
  have FX : Fx (fun a => a = M ∨ (M + 411 ≤ a ∧ a < M + 414)) (fun _ _ => False) μ (jrowI (jrowI (jrowI hX (M + 411) f1) (M + 412) f2) (M + 413) f3) := by
    subst hX1
    refine Fx.rowI (Fx.rowI (Fx.rowI (Fx.setI Fx.refl (Or.inl rfl)) ?_) ?_) ?_ <;> exact Or.inr (by omega)
  have v1 : jiv (jrowI (jrowI (jrowI hX (M + 411) f1) (M + 412) f2) (M + 413) f3) (M + 411) = f1 := by
    rw [iv_rowIn (show ¬ M + 411 = M + 413 by omega), iv_rowIn (show ¬ M + 411 = M + 412 by omega), iv_rowIe]
  have v2 : jiv (jrowI (jrowI (jrowI hX (M + 411) f1) (M + 412) f2) (M + 413) f3) (M + 412) = f2 := by
    rw [iv_rowIn (show ¬ M + 412 = M + 413 by omega), iv_rowIe]
  have v3 : jiv (jrowI (jrowI (jrowI hX (M + 411) f1) (M + 412) f2) (M + 413) f3) (M + 413) = f3 := iv_rowIe
  have vM : ∀ j, jiv (jrowI (jrowI (jrowI hX (M + 411) f1) (M + 412) f2) (M + 413) f3) M j = if j = 43 then N (σ.1.1 3).length else jiv μ M j := fun j => by
    rw [iv_rowIn (show ¬ M = M + 413 by omega), iv_rowIn (show ¬ M = M + 412 by omega), iv_rowIn (show ¬ M = M + 411 by omega), hX1]
    simp only [iv_setI, true_and]
  have c1 : jcp hX (.ref (M + 3 + 3)) 0 (.ref (M + 411)) 0 8 = _ := c1
  have c2 : jcp (jrowI hX (M + 411) f1) (.ref (M + 8 + 3)) 0 (.ref (M + 412)) 0 24 = _ := c2
  have c3 : jcp (jrowI (jrowI hX (M + 411) f1) (M + 412) f2) (.ref (M + 13 + 3)) 0 (.ref (M + 413)) 0 24 = _ := c3
  have g1 : jaR μ (.ref (M + 2)) 3 = some (.ref (M + 3 + 3)) := gr.1
  have g2 : jaR μ (.ref (M + 7)) 3 = some (.ref (M + 8 + 3)) := gr.2.1
  have g3 : jaR μ (.ref (M + 12)) 3 = some (.ref (M + 13 + 3)) := gr.2.2.1
  have st : jC (d + 1) 247 [.ref M] μ = jR (d + 1) 247 63 [.ref M, .int (N 0)] [] (jrowI (jrowI (jrowI hX (M + 411) f1) (M + 412) f2) (M + 413) f3) := by
    rw [jC_run (by decide)]
    show jR (d + 1) 247 0 [.ref M, .retAddr 0] [] μ = _
    have kX : jk hX M = 13 := by rw [Xk]; exact k13
    have aX1 : ∀ f, jaR (jrowI hX (M + 411) f) (.ref (M + 7)) 3 = some (.ref (M + 8 + 3)) := fun f => (XaR (M + 7) 3).trans g2
    have aX2 : ∀ f f', jaR (jrowI (jrowI hX (M + 411) f) (M + 412) f') (.ref (M + 12)) 3 = some (.ref (M + 13 + 3)) := fun f f' => (XaR (M + 12) 3).trans g3
    rw [b247_0]
    simp only [gI13, gR13, pI13, pR13, rv13, k13, hq.f.1, ro, jfit0, and_true, if_true, Option.bind_some, rf_some, ← hX1, kX, Xr, hq.f.2.1, XaR, g1, q44, c1, jk_rowI, rv_rowI, hq.f.2.2.1, aX1, q45, c2, hq.f.2.2.2.1, aX2, q46, c3]
    rfl
  generalize jrowI (jrowI (jrowI hX (M + 411) f1) (M + 412) f2) (M + 413) f3 = Y at *
  have FNY : FN M μ Y := ⟨FX.mono (fun a k => by unfold SN; omega) (fun a j k => k.elim), fun j hj => by rw [vM, if_neg (by omega)]⟩
  have QY := FNY.qs hq
  have loop : ∀ (m n : Nat) (Z : jM), n + m = 24 → Fx (fun _ => False) (fun a _ => a = M + 414) Y Z → (∀ j, j < n → jrv Z (M + 414) j = jrv μ (M + 23 + 3) j) → ∃ Z', jR (d + 1) 247 63 [.ref M, .int (N n)] [] Z = some (none, Z') ∧ Fx (fun _ => False) (fun a _ => a = M + 414) Y Z' ∧ ∀ j, j < 24 → jrv Z' (M + 414) j = jrv μ (M + 23 + 3) j := by
    intro m
    induction m with
    | zero =>
      intro n Z hn F hv
      have : n = 24 := by omega
      subst this
      exact ⟨Z, by rw [b247_63, if_neg (by decide)], F, hv⟩
    | succ m ih =>
      intro n Z hn F hv
      have QZ : QS Z M := Fx.qs F QY (fun a j k => Or.inr (Or.inr (Or.inr k)))
      obtain ⟨⟨-, -, -, z47⟩, -, -, -, z4⟩ := QZ.oth
      have zk := QZ.gk (g := 3) (by decide)
      have zr : jaR Z (.ref (M + 22)) 3 = some (.ref (M + 23 + 3)) := (QZ.gr (g := 3) (by decide)).2.2.2.2.1
      have rv3 : jrv Z (M + 23 + 3) = jrv μ (M + 23 + 3) := by
        funext j
        rw [F.rv (by omega)]
        exact FX.rv id
      have e1 := refGet' (μ := Z) (a := M + 23 + 3) (i := n) (by rw [zk.2.2.2.2.1.1]; decide) zk.2.2.2.2.1.2 (by omega) (by decide)
      rw [rv3] at e1
      have e2 := refSet (μ := Z) (a := M + 414) (i := n) (r := jrv μ (M + 23 + 3) n) z4.1 z4.2 (by omega) (by decide) (fun b hb => by
        rw [F.kk, FX.kk]
        exact H1.2.2.2 n b hb)
      obtain ⟨Z', w1, w2, w3⟩ := ih (n + 1) (jsetR Z (M + 414) n (jrv μ (M + 23 + 3) n)) (by omega) (Fx.setR F rfl) (fun j hj => by
        show (if M + 414 = M + 414 ∧ j = n then _ else jrv Z (M + 414) j) = _
        by_cases e : j = n
        · subst e; rw [if_pos ⟨rfl, rfl⟩]
        · rw [if_neg (fun q => e q.2)]; exact hv j (by omega))
      refine ⟨Z', ?_, w2, w3⟩
      rw [b247_63, if_pos (by show N n < N 24; rw [N_lt (by omega) (by decide)]; omega)]
      simp only [gI13, gR13, pI13, pR13, rv13, QZ.k13, z47, QZ.f.2.2.2.2.2, zr, e1, e2, if_true, Option.bind_some, rf_some, show (1 : Int32) = N 1 from rfl, N_add]
      exact w1
  obtain ⟨Z, w1, w2, w3⟩ := loop 24 0 Y (by decide) Fx.refl (fun j hj => by omega)
  have F2 : FN M Y Z := ⟨w2.mono (fun a k => k.elim) (fun a j k => by unfold TN; omega), fun j _ => congrFun (w2.iv id) j⟩
  have F3 := FNY.trans F2
  have F4 : Fx (fun a => a = M ∨ (M + 411 ≤ a ∧ a < M + 414)) (fun a _ => a = M + 414) μ Z := Fx.trans (FX.mono (fun a k => k) (fun a j k => k.elim)) (w2.mono (fun a k => k.elim) (fun a j k => k))
  have k3' : A3 Z M 13 := fun g hg => (aA_keep F4 (fun a h1 h2 q => by omega) (fun a j h1 h2 q => by omega) (show 13 < 14 by decide) hg (h.2.1 13 (by decide) g hg)).1
  refine ⟨Z, by rw [st]; exact w1, F3, h.aside F3 k3', hT.keep F4 F3.fd (fun a k => by omega) (fun a j k => by omega), ?_, by omega, fun i hi => ⟨?_, fun c hc => ?_⟩⟩
  · rw [show jiv Z M = jiv Y M from w2.iv id, vM, if_pos rfl]
  · rw [show jiv Z (M + 411) = jiv Y (M + 411) from w2.iv id, v1, ← hf1, cpy_in (by omega) (by omega), h.key (by decide) hi]
    congr 1
    omega
  · obtain ⟨i8, x1, x2⟩ := h.cell (g := 3) (by decide) hc hi
    have ex : xO Z M (i * 3 + c) = ((rc μ (mA M 3) (i * 3 + c)).1, (rc μ (mA M 3) (i * 3 + c)).2.1, (rc μ (mA M 3) (i * 3 + c)).2.2.1, N 0) := by
      unfold xO
      rw [show jiv Z (M + 412) = jiv Y (M + 412) from w2.iv id, show jiv Z (M + 413) = jiv Y (M + 413) from w2.iv id, v2, v3, ← hf2, ← hf3, cpy_in (by omega) (by omega), cpy_in (by omega) (by omega), w3 _ (by omega), Nat.zero_add, Nat.sub_zero]
      rfl
    rw [ex, x1]
    have ct : CT μ M ((rc μ (mA M 3) (i * 3 + c)).1, (rc μ (mA M 3) (i * 3 + c)).2.1, (rc μ (mA M 3) (i * 3 + c)).2.2.1, N 0) (cnt (rcm (mF μ) (rc μ (mA M 3) (i * 3 + c)))) := ⟨x2, rfl⟩
    exact ct.to F3.fd
end LAY
