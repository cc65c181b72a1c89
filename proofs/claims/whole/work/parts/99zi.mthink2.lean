/-! THE REFERENCE: thought, and awake -/
section LAY
variable {μ μ' μ'' ν : jM} {S S' : Nat → Prop} {T T' : Nat → Nat → Prop} {M g h t s n w d D i j k x y a b c f q : Nat} {A B C : GA} {σ τ : SG} {G : Nat → DG} {l l' : List CL}
theorem cpy_in {f g : Nat → Int32} {sp dp n i : Nat} (h1 : dp ≤ i) (h2 : i < dp + n) : va_cpy f g sp dp n i = f (sp + (i - dp)) := by
  unfold va_cpy
  rw [if_pos ⟨h1, h2⟩]
theorem cpy_out {f g : Nat → Int32} {sp dp n i : Nat} (h : ¬ (dp ≤ i ∧ i < dp + n)) : va_cpy f g sp dp n i = g i := by
  unfold va_cpy
  rw [if_neg h]
theorem QS.kept (hq : QS μ M) : (jrv μ M 41 = some (M + 409) ∧ jrv μ M 42 = some (M + 410)) ∧ (jk μ (M + 409) = 20 ∧ jl μ (M + 409) = 242) ∧ jk μ (M + 410) = 21 ∧ jl μ (M + 410) = 80 :=
  ⟨⟨hq.2.1 41 409 rfl, hq.2.1 42 410 rfl⟩, hq.kd (o := 409) (by decide) rfl, hq.kd (o := 410) (by decide) rfl⟩
/-- the clashes laid aside, in memory -/
def thM (μ : jM) (M n : Nat) (b : Int32) : jM := jrowI (jrowI (jrowI (jrowI (jsetI (jsetI μ (M + 409) 0 (N n)) (M + 409) 1 b) (M + 409) (va_cpy (jiv μ (M + 405)) (fun j => if j = 1 then b else if j = 0 then N n else jiv μ (M + 409) j) 0 2 80)) (M + 409) (va_cpy (jiv μ (M + 406)) (va_cpy (jiv μ (M + 405)) (fun j => if j = 1 then b else if j = 0 then N n else jiv μ (M + 409) j) 0 2 80) 0 82 80)) (M + 409) (va_cpy (jiv μ (M + 407)) (va_cpy (jiv μ (M + 406)) (va_cpy (jiv μ (M + 405)) (fun j => if j = 1 then b else if j = 0 then N n else jiv μ (M + 409) j) 0 2 80) 0 82 80) 0 162 80)) (M + 410) (va_cpy (jiv μ (M + 408)) (jiv μ (M + 410)) 0 0 80)
theorem r_think47 {bb : Nat} {u1 : Value} (hq : QS μ M) (h2 : bb < 2) (h0 : jiv ν M = jiv μ M) (hν : ν = jsetI μ (M + 409) 0 (N n)) : jR (d + 1) 246 47 [.ref M, u1] [.int (N bb), .int 1, .ref (M + 409)] ν = some (none, thM μ M n (N bb)) := by
  subst hν
  obtain ⟨⟨q41, q42⟩, k9, k10⟩ := hq.kept
  obtain ⟨⟨q37, q38, q39, q40⟩, k5, k6, k7, k8⟩ := hq.cl
  have k13 := hq.k13
  have s1 := ent_set (μ := jsetI μ (M + 409) 0 (N n)) (i := 1) (v := N bb) k9.1 k9.2 (by decide) (by decide)
  have s1 : jsI (jsetI μ (M + 409) 0 (N n)) (.ref (M + 409)) 1 (N bb) = _ := s1
  have e0 : jiv (jsetI (jsetI μ (M + 409) 0 (N n)) (M + 409) 1 (N bb)) (M + 409) = fun j => if j = 1 then N bb else if j = 0 then N n else jiv μ (M + 409) j := by
    funext j
    simp only [iv_setI, true_and]
  have c1 := cp_N (μ := jsetI (jsetI μ (M + 409) 0 (N n)) (M + 409) 1 (N bb)) (a := M + 405) (b := M + 409) (sp := 0) (dp := 2) (n0 := 80) k5.1 k9.1 (by show 0 + 80 ≤ jl μ (M + 405); rw [k5.2]; decide) (by show 2 + 80 ≤ jl μ (M + 409); rw [k9.2]; decide) (by show jl μ (M + 405) < _; rw [k5.2]; decide) (by show jl μ (M + 409) < _; rw [k9.2]; decide)
  rw [e0, show jiv (jsetI (jsetI μ (M + 409) 0 (N n)) (M + 409) 1 (N bb)) (M + 405) = jiv μ (M + 405) from (iv_setIn (by omega)).trans (iv_setIn (by omega))] at c1
  generalize hX : jsetI (jsetI μ (M + 409) 0 (N n)) (M + 409) 1 (N bb) = X at *
  have Xk : jk X = jk μ := by subst hX; rfl
  have Xl : jl X = jl μ := by subst hX; rfl
  have Xr : jrv X = jrv μ := by subst hX; rfl
  have Xv : ∀ a, a ≠ M + 409 → jiv X a = jiv μ a := fun a ha => by subst hX; exact (iv_setIn ha).trans (iv_setIn ha)
  generalize hf1 : va_cpy (jiv μ (M + 405)) (fun j => if j = 1 then N bb else if j = 0 then N n else jiv μ (M + 409) j) 0 2 80 = f1 at *
  have c2 := cp_N (μ := jrowI X (M + 409) f1) (a := M + 406) (b := M + 409) (sp := 0) (dp := 82) (n0 := 80) (by show jk X _ = 20; rw [Xk]; exact k6.1) (by show jk X _ = 20; rw [Xk]; exact k9.1) (by show 0 + 80 ≤ jl X (M + 406); rw [Xl, k6.2]; decide) (by show 82 + 80 ≤ jl X (M + 409); rw [Xl, k9.2]; decide) (by show jl X (M + 406) < _; rw [Xl, k6.2]; decide) (by show jl X (M + 409) < _; rw [Xl, k9.2]; decide)
  rw [iv_rowIe, iv_rowIn (show ¬ M + 406 = M + 409 by omega), Xv _ (by omega)] at c2
  generalize hf2 : va_cpy (jiv μ (M + 406)) f1 0 82 80 = f2 at *
  have c3 := cp_N (μ := jrowI (jrowI X (M + 409) f1) (M + 409) f2) (a := M + 407) (b := M + 409) (sp := 0) (dp := 162) (n0 := 80) (by show jk X _ = 20; rw [Xk]; exact k7.1) (by show jk X _ = 20; rw [Xk]; exact k9.1) (by show 0 + 80 ≤ jl X (M + 407); rw [Xl, k7.2]; decide) (by show 162 + 80 ≤ jl X (M + 409); rw [Xl, k9.2]; decide) (by show jl X (M + 407) < _; rw [Xl, k7.2]; decide) (by show jl X (M + 409) < _; rw [Xl, k9.2]; decide)
  rw [iv_rowIe, iv_rowIn (show ¬ M + 407 = M + 409 by omega), iv_rowIn (show ¬ M + 407 = M + 409 by omega), Xv _ (by omega)] at c3
  generalize hf3 : va_cpy (jiv μ (M + 407)) f2 0 162 80 = f3 at *
  have c4 := cpB_N (μ := jrowI (jrowI (jrowI X (M + 409) f1) (M + 409) f2) (M + 409) f3) (a := M + 408) (b := M + 410) (sp := 0) (dp := 0) (n0 := 80) (by show jk X _ = 21; rw [Xk]; exact k8.1) (by show jk X _ = 21; rw [Xk]; exact k10.1) (by show 0 + 80 ≤ jl X (M + 408); rw [Xl, k8.2]; decide) (by show 0 + 80 ≤ jl X (M + 410); rw [Xl, k10.2]; decide) (by show jl X (M + 408) < _; rw [Xl, k8.2]; decide) (by show jl X (M + 410) < _; rw [Xl, k10.2]; decide)
  rw [iv_rowIn (show ¬ M + 408 = M + 409 by omega), iv_rowIn (show ¬ M + 408 = M + 409 by omega), iv_rowIn (show ¬ M + 408 = M + 409 by omega), iv_rowIn (show ¬ M + 410 = M + 409 by omega), iv_rowIn (show ¬ M + 410 = M + 409 by omega), iv_rowIn (show ¬ M + 410 = M + 409 by omega), Xv (M + 408) (by omega), Xv (M + 410) (by omega)] at c4
  have er : thM μ M n (N bb) = jrowI (jrowI (jrowI (jrowI X (M + 409) f1) (M + 409) f2) (M + 409) f3) (M + 410) (va_cpy (jiv μ (M + 408)) (jiv μ (M + 410)) 0 0 80) := by
    unfold thM
    rw [hf1, hf2, hf3, hX]
  rw [er, b246_47 (hs0 := ir_ref)]
  have kX : jk X M = 13 := by rw [Xk]; exact k13
  have c1 : jcp X (.ref (M + 405)) 0 (.ref (M + 409)) 2 80 = _ := c1
  have c2 : jcp (jrowI X (M + 409) f1) (.ref (M + 406)) 0 (.ref (M + 409)) 82 80 = _ := c2
  have c3 : jcp (jrowI (jrowI X (M + 409) f1) (M + 409) f2) (.ref (M + 407)) 0 (.ref (M + 409)) 162 80 = _ := c3
  have c4 : jcp (jrowI (jrowI (jrowI X (M + 409) f1) (M + 409) f2) (M + 409) f3) (.ref (M + 408)) 0 (.ref (M + 410)) 0 80 = _ := c4
  simp only [s1, gI13, gR13, pI13, pR13, rv13, kX, Xr, q37, q38, q39, q40, q41, q42, if_true, Option.bind_some, rf_some, c1, jk_rowI, rv_rowI, c2, c3, c4]
theorem thM_fx {b : Int32} : Fx (fun a => a = M + 409 ∨ a = M + 410) (fun _ _ => False) μ (thM μ M n b) := by
  unfold thM
  exact Fx.rowI (Fx.rowI (Fx.rowI (Fx.rowI (Fx.setI (Fx.setI Fx.refl (Or.inl rfl)) (Or.inl rfl)) (Or.inl rfl)) (Or.inl rfl)) (Or.inl rfl)) (Or.inr rfl)
theorem thM_9 {b : Int32} : jiv (thM μ M n b) (M + 409) = va_cpy (jiv μ (M + 407)) (va_cpy (jiv μ (M + 406)) (va_cpy (jiv μ (M + 405)) (fun j => if j = 1 then b else if j = 0 then N n else jiv μ (M + 409) j) 0 2 80) 0 82 80) 0 162 80 := by
  unfold thM
  rw [iv_rowIn (show ¬ M + 409 = M + 410 by omega), iv_rowIe]
theorem thM_10 {b : Int32} : jiv (thM μ M n b) (M + 410) = va_cpy (jiv μ (M + 408)) (jiv μ (M + 410)) 0 0 80 := by
  unfold thM
  rw [iv_rowIe]
theorem r_think (h : MR μ M σ) : ∃ μ', jC (d + 2) 246 [.ref M] μ = some (none, μ') ∧ FN M μ μ' ∧ MR μ' M σ ∧ TH μ' M σ := by
  obtain ⟨hq, hA, hg, hr, hu, hi, ht, ⟨h80, h35, hv⟩, hm, hs⟩ := id h
  obtain ⟨μ1, c1, ⟨F1, i1⟩, Q1, A1, r1⟩ := th_lays (d := d) (fun g hg4 => (hg g hg4).1.gw) 4 0 μ (by decide) ⟨Fx.refl, rfl⟩ hq hA (fun h hh => by omega)
  have hm : jiv μ M 36 = if σ.2.2.2.2.1 = true then N 1 else N 0 := hm
  have FN1 : FN M μ μ1 := ⟨F1, fun j _ => by rw [i1]⟩
  have v5 : ∀ a, M + 405 ≤ a → a < M + 409 → jiv μ1 a = jiv μ a := fun a h1 h2 => FN1.iv (by unfold SN; omega)
  obtain ⟨⟨q41, q42⟩, k9, k10⟩ := Q1.kept
  have s0 := ent_set (μ := μ1) (i := 0) (v := N σ.2.2.2.1.length) k9.1 k9.2 (by decide) (by decide)
  have s0 : jsI μ1 (.ref (M + 409)) 0 (N σ.2.2.2.1.length) = _ := s0
  have e35 : jiv μ1 M 35 = N σ.2.2.2.1.length := by rw [i1]; exact h35
  have e36 : jiv (jsetI μ1 (M + 409) 0 (N σ.2.2.2.1.length)) M 36 = if σ.2.2.2.2.1 = true then N 1 else N 0 := by
    rw [show jiv (jsetI μ1 (M + 409) 0 (N σ.2.2.2.1.length)) M = jiv μ1 M from iv_setIn (by omega), i1]; exact hm
  have F2 : ∀ b : Int32, Fx (fun a => a = M + 409 ∨ a = M + 410) (fun _ _ => False) μ1 (thM μ1 M σ.2.2.2.1.length b) := fun b => thM_fx
  have key : ∀ bb : Nat, (if σ.2.2.2.2.1 = true then N 1 else N 0) = N bb → FN M μ (thM μ1 M σ.2.2.2.1.length (N bb)) ∧ MR (thM μ1 M σ.2.2.2.1.length (N bb)) M σ ∧ TH (thM μ1 M σ.2.2.2.1.length (N bb)) M σ := by
    intro bb hb
    have F3 : FN M μ1 (thM μ1 M σ.2.2.2.1.length (N bb)) := ⟨(F2 _).mono (fun a k => by unfold SN; omega) (fun a j k => k.elim), fun j _ => congrFun ((F2 _).iv (by omega)) j⟩
    have F4 := FN1.trans F3
    have k3 : ∀ g, g < 4 → GW (thM μ1 M σ.2.2.2.1.length (N bb)) (aA M 13 g) ∧ rG (thM μ1 M σ.2.2.2.1.length (N bb)) (aA M 13 g) = rG μ1 (aA M 13 g) := fun g hg => aA_keep (F2 (N bb)) (fun a h1 h2 q => by omega) (fun a j h1 h2 q => q) (show 13 < 14 by decide) hg (A1 13 (by decide) g hg)
    refine ⟨F4, h.aside F4 (fun g hg => (k3 g hg).1), fun g hg4 => ?_, ?_, ?_, h80, fun i c hi => ?_⟩
    · obtain ⟨z1, z2⟩ := hg g hg4
      obtain ⟨y1, y2⟩ := k3 g hg4
      obtain ⟨x1, x2⟩ := z1.to F4.fd y1 (y2.trans (r1 g hg4))
      exact ⟨x1, x2.trans z2⟩
    · rw [thM_9, cpy_out (by omega), cpy_out (by omega), cpy_out (by omega)]
      show (if 0 = 1 then _ else if 0 = 0 then _ else _) = _
      rw [if_neg (by decide), if_pos rfl]
    · rw [thM_9, cpy_out (by omega), cpy_out (by omega), cpy_out (by omega)]
      show (if 1 = 1 then _ else _) = _
      rw [if_pos rfl]; exact hb.symm
    · have hil : i < σ.2.2.2.1.length := (List.getElem?_eq_some_iff.mp hi).1
      obtain ⟨v1, v2, v3, v4⟩ := hv i c hi
      rw [thM_9, thM_10]
      refine ⟨?_, ?_, ?_, ?_⟩
      · rw [cpy_out (by omega), cpy_out (by omega), cpy_in (by omega) (by omega), show 0 + (2 + i - 2) = i by omega, v5 _ (by omega) (by omega)]; exact v1
      · rw [cpy_out (by omega), cpy_in (by omega) (by omega), show 0 + (82 + i - 82) = i by omega, v5 _ (by omega) (by omega)]; exact v2
      · rw [cpy_in (by omega) (by omega), show 0 + (162 + i - 162) = i by omega, v5 _ (by omega) (by omega)]; exact v3
      · rw [cpy_in (by omega) (by omega), show 0 + (i - 0) = i by omega, v5 _ (by omega) (by omega)]; exact v4
  have st : jC (d + 2) 246 [.ref M] μ = jR (d + 2) 246 2 [.ref M, .int (N 4)] [] μ1 := by
    rw [jC_run (by decide)]
    show jR (d + 2) 246 0 [.ref M, .retAddr 0] [] μ = _
    rw [b246_0]
    exact c1
  have kX : jk (jsetI μ1 (M + 409) 0 (N σ.2.2.2.1.length)) M = 13 := Q1.k13
  have rX : jrv (jsetI μ1 (M + 409) 0 (N σ.2.2.2.1.length)) = jrv μ1 := rfl
  rw [st, b246_2, if_neg (by decide)]
  simp only [gI13, gR13, pI13, pR13, rv13, Q1.k13, q41, e35, s0, if_true, Option.bind_some, rf_some, kX, rX, e36]
  by_cases em : σ.2.2.2.2.1 = true
  · obtain ⟨z1, z2, z3⟩ := key 1 (if_pos em)
    rw [if_pos em, if_neg (by decide)]
    exact ⟨_, r_think47 (bb := 1) Q1 (by decide) (iv_setIn (by omega)) rfl, z1, z2, z3⟩
  · obtain ⟨z1, z2, z3⟩ := key 0 (if_neg em)
    rw [if_neg em, if_pos (by decide)]
    exact ⟨_, r_think47 (bb := 0) Q1 (by decide) (iv_setIn (by omega)) rfl, z1, z2, z3⟩
end LAY
