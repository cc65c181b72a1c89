/-! THE REFERENCE's CALLS: the image -/
section LAY
variable {μ μ' ν : jM} {S S' : Nat → Prop} {T T' : Nat → Nat → Prop} {M g h t s n w d D i j k x y a b c : Nat} {A B C : GA} {σ : SG}
theorem p_image (h : MR μ M σ) : ROP M (jC (d + 2) 259 [.ref M] μ) μ (o_image σ) := by
  obtain ⟨hq, hA, hg, hr, ⟨u1, u2, u3⟩, hi, ht, hc, hm, hs⟩ := id h
  have k13 := hq.k13
  have q51 : ∀ {ν : jM}, QS ν M → jrv ν M 51 = some (M + 415) ∧ jk ν (M + 415) = 20 ∧ jl ν (M + 415) = 6 := fun q => ⟨q.2.1 51 415 rfl, q.kd (o := 415) (by decide) rfl⟩
  have F0 : FI6 M μ (jsetI μ M 49 (N 1)) := ⟨Fx.setI Fx.refl (Or.inl rfl), fun j h1 h2 => ivj h1⟩
  have a0 : AA (jsetI μ M 49 (N 1)) M := fun t ht g hg => aA_setM.2 (hA t ht g hg)
  obtain ⟨μ1, c1, F1, Q1, A1, i1, r1⟩ := im_lays (d := d) (fun g hg4 => (hg g hg4).1.gw) 4 0 _ (by decide) F0 (F0.qs hq) a0 (fun h hh => by omega)
  have i14 : jiv μ1 M 14 = N σ.1.2.2.length := by
    rw [F1.2 14 (by decide) (by decide)]; exact u2
  have F2 : FI6 M μ (jsetI μ1 M 50 (N σ.1.2.2.length)) := F1.trans ⟨Fx.setI Fx.refl (Or.inl rfl), fun j h1 h2 => ivj h2⟩
  have Q2 := F2.qs hq
  obtain ⟨μ3, c3, F3, Q3, A3', i3, r3, r6⟩ := im_moves (d := d) u1 hA σ.1.2.2.length 0 _ (by omega) F2 Q2 (fun t ht g hg => aA_setM.2 (A1 t ht g hg)) (by rw [F2.2 14 (by decide) (by decide)]; exact u2) (fun j hj => by omega)
  have k13' := Q3.k13
  obtain ⟨q6, q7, k27, k28⟩ := Q3.fr
  obtain ⟨q5, k15, l15⟩ := q51 Q3
  have s1 := cp_N (μ := μ3) (a := M + 27) (b := M + 415) (sp := 0) (dp := 0) (n0 := 3) k27.1 k15 (by rw [k27.2]; decide) (by rw [l15]; decide) (by rw [k27.2]; decide) (by rw [l15]; decide)
  have s2 := cp_N (μ := jrowI μ3 (M + 415) (va_cpy (jiv μ3 (M + 27)) (jiv μ3 (M + 415)) 0 0 3)) (a := M + 28) (b := M + 415) (sp := 0) (dp := 3) (n0 := 3) k28.1 k15 (by show 0 + 3 ≤ jl μ3 (M + 28); rw [k28.2]; decide) (by show 3 + 3 ≤ jl μ3 (M + 415); rw [l15]; decide) (by show jl μ3 (M + 28) < _; rw [k28.2]; decide) (by show jl μ3 (M + 415) < _; rw [l15]; decide)
  rw [iv_rowIe, iv_rowIn (show ¬ M + 28 = M + 415 by omega)] at s2
  have FX : Fx (fun a => a = M + 415) (fun _ _ => False) μ3 (jrowI (jrowI μ3 (M + 415) (va_cpy (jiv μ3 (M + 27)) (jiv μ3 (M + 415)) 0 0 3)) (M + 415) (va_cpy (jiv μ3 (M + 28)) (va_cpy (jiv μ3 (M + 27)) (jiv μ3 (M + 415)) 0 0 3) 0 3 3)) := Fx.rowI (Fx.rowI Fx.refl rfl) rfl
  have e15 : jiv (jrowI (jrowI μ3 (M + 415) (va_cpy (jiv μ3 (M + 27)) (jiv μ3 (M + 415)) 0 0 3)) (M + 415) (va_cpy (jiv μ3 (M + 28)) (va_cpy (jiv μ3 (M + 27)) (jiv μ3 (M + 415)) 0 0 3) 0 3 3)) (M + 415) = va_cpy (jiv μ3 (M + 28)) (va_cpy (jiv μ3 (M + 27)) (jiv μ3 (M + 415)) 0 0 3) 0 3 3 := iv_rowIe
  generalize eμ : jrowI (jrowI μ3 (M + 415) (va_cpy (jiv μ3 (M + 27)) (jiv μ3 (M + 415)) 0 0 3)) (M + 415) (va_cpy (jiv μ3 (M + 28)) (va_cpy (jiv μ3 (M + 27)) (jiv μ3 (M + 415)) 0 0 3) 0 3 3) = μ4 at *
  have F4 : FI6 M μ μ4 := F3.trans ⟨FX.mono (fun a k => Or.inr (Or.inl k)) (fun a j k => k.elim), fun j _ _ => congrFun (FX.iv (by omega)) j⟩
  have Q4 := F4.qs hq
  have fd : FD (M + 424) μ μ4 := F4.1.fd (fun a k => by unfold SI6 at k; omega) (fun a j k => by unfold TI6 at k; omega)
  have keep : ∀ t g, t < 14 → g < 4 → GW μ3 (aA M t g) → GW μ4 (aA M t g) ∧ rG μ4 (aA M t g) = rG μ3 (aA M t g) := fun t g ht hg hw => aA_keep FX (fun a h1 h2 q => by omega) (fun a j h1 h2 q => q) ht hg hw
  have iv : ∀ a, ¬ SI6 M a → jiv μ4 a = jiv μ a := fun a k => F4.1.iv k
  have i49 : jiv μ4 M 49 = N 1 := by
    rw [FX.iv (a := M) (by omega), i3]
    show (if M = M ∧ 49 = 50 then _ else jiv μ1 M 49) = _
    rw [if_neg (fun q => absurd q.2 (by decide)), i1]
    exact if_pos ⟨rfl, rfl⟩
  have i50 : jiv μ4 M 50 = N σ.1.2.2.length := by
    rw [FX.iv (a := M) (by omega), i3]
    exact if_pos ⟨rfl, rfl⟩
  have m4 : MR μ4 M (σ.1, some σ.1, σ.2.2) := by
    refine ⟨Q4, fun t ht g hg => (keep t g ht hg (A3' t ht g hg)).1, fun g hg4 => ?_, fun c hc => ?_, ⟨u1, by rw [F4.2 14 (by decide) (by decide)]; exact u2, fun i v hv g hg3 => ?_⟩, Or.inr ⟨σ.1, rfl, i49, fun g hg4 => ?_, fun c hc => ?_, u1, i50, fun i v hv g hg3 => ?_⟩, ?_, ?_, ?_, fun i hi => ?_⟩
    · obtain ⟨z1, z2⟩ := hg g hg4
      obtain ⟨y1, y2⟩ := F4.main hg4 z1.gw
      obtain ⟨x1, x2⟩ := z1.to fd y1 y2
      exact ⟨x1, x2.trans z2⟩
    · rw [iv (M + 27) (by unfold SI6; omega), iv (M + 28) (by unfold SI6; omega)]; exact hr c hc
    · have hil : i < σ.1.2.2.length := (List.getElem?_eq_some_iff.mp hv).1
      obtain ⟨z1, z2⟩ := u3 i v hv g hg3
      obtain ⟨y1, y2⟩ := F4.und (t := σ.1.2.2.length - 1 - i) (g := g) (by omega) (by omega) z1.gw
      obtain ⟨x1, x2⟩ := z1.to fd y1 y2
      exact ⟨x1, x2.trans z2⟩
    · obtain ⟨z1, z2⟩ := hg g hg4
      obtain ⟨y1, y2⟩ := keep 6 g (by decide) hg4 (A3' 6 (by decide) g hg4)
      obtain ⟨x1, x2⟩ := z1.to fd y1 (y2.trans ((r6 g hg4).trans (aA_setM.1.trans (r1 g hg4))))
      exact ⟨x1, x2.trans z2⟩
    · obtain ⟨z1, z2⟩ := hr c hc
      rw [e15]
      have w1 : jiv μ3 (M + 27) c = jiv μ (M + 27) c := congrFun (F3.1.iv (by unfold SI6; omega)) c
      have w2 : jiv μ3 (M + 28) c = jiv μ (M + 28) c := congrFun (F3.1.iv (by unfold SI6; omega)) c
      refine ⟨?_, ?_⟩
      · unfold va_cpy
        rw [if_neg (by omega), if_pos (by omega), Nat.zero_add, Nat.sub_zero, w1]; exact z1
      · unfold va_cpy
        rw [if_pos (by omega), Nat.zero_add, show 3 + c - 3 = c by omega, w2]; exact z2
    · have hil : i < σ.1.2.2.length := (List.getElem?_eq_some_iff.mp hv).1
      obtain ⟨z1, z2⟩ := u3 i v hv g hg3
      show GVR μ4 (M + 424) (aA M (7 + (σ.1.2.2.length - 1 - i)) g) ∧ dM μ4 (aA M (7 + (σ.1.2.2.length - 1 - i)) g) = v g
      obtain ⟨y1, y2⟩ := keep (7 + (σ.1.2.2.length - 1 - i)) g (by omega) (by omega) (A3' _ (by omega) g (by omega))
      obtain ⟨x1, x2⟩ := z1.to fd y1 (y2.trans (r3 (σ.1.2.2.length - 1 - i) (by omega) g hg3))
      exact ⟨x1, x2.trans z2⟩
    · obtain ⟨b1, b2, b3⟩ := ht
      exact ⟨b1, by rw [F4.2 16 (by decide) (by decide)]; exact b2, by rw [iv (M + 399) (by unfold SI6; omega)]; exact b3⟩
    · obtain ⟨b1, b2, b3⟩ := hc
      exact ⟨b1, by rw [F4.2 35 (by decide) (by decide)]; exact b2, by rw [iv (M + 405) (by unfold SI6; omega), iv (M + 406) (by unfold SI6; omega), iv (M + 407) (by unfold SI6; omega), iv (M + 408) (by unfold SI6; omega)]; exact b3⟩
    · show jiv μ4 M 36 = _
      rw [F4.2 36 (by decide) (by decide)]; exact hm
    · rw [iv (M + 416) (by unfold SI6; omega), iv (M + 417) (by unfold SI6; omega), iv (M + 419 + i) (by unfold SI6; omega)]
      exact hs i hi
  obtain ⟨G1, G2, G3, G4, G5⟩ := m4.gq (g := 3) (by decide)
  have ro := Q4.ro (g := 3) (by decide)
  rw [G1.2.1, ← G4] at ro
  have ro : jaI μ4 (.ref (M + 1)) 3 = some (N (σ.1.1 3).length) := ro
  have st : jC (d + 2) 259 [.ref M] μ = jR (d + 2) 259 7 [.ref M, .int (N 0)] [] (jsetI μ M 49 (N 1)) := by
    rw [jC_run (by decide)]
    show jR (d + 2) 259 0 [.ref M, .retAddr 0] [] μ = _
    rw [b259_0]
    simp only [gI13, gR13, pI13, pR13, rv13, Option.bind_some, Option.bind_none, if_true, if_false, true_or, or_true, false_or, or_false, true_and, and_true, false_and, and_false, decide_eq_true_eq, decide_true, decide_false, eq_self, not_true_eq_false, not_false_eq_true, jfit0, N_lit, N_add, N_mul, NEG_eq, pl_none, pl_some, rf_some, rf_none, jun_ref, jun_null, ir_ref, ir_null, jr_rf, jun_rf, Option.toList_some, Option.toList_none, List.nil_append, List.cons_append, k13, jfit2_1]
  have st2 : jR (d + 2) 259 7 [.ref M, .int (N 4)] [] μ1 = jR (d + 2) 259 35 [.ref M, .int (N 0)] [] (jsetI μ1 M 50 (N σ.1.2.2.length)) := by
    rw [b259_7, if_neg (by decide)]
    simp only [gI13, gR13, pI13, pR13, rv13, Option.bind_some, Option.bind_none, if_true, if_false, true_or, or_true, false_or, or_false, true_and, and_true, false_and, and_false, decide_eq_true_eq, decide_true, decide_false, eq_self, not_true_eq_false, not_false_eq_true, jfit0, N_lit, N_add, N_mul, NEG_eq, pl_none, pl_some, rf_some, rf_none, jun_ref, jun_null, ir_ref, ir_null, jr_rf, jun_rf, Option.toList_some, Option.toList_none, List.nil_append, List.cons_append, Q1.k13, i14, jfit0]
  have e14 : jiv μ3 M 14 = N σ.1.2.2.length := by rw [F3.2 14 (by decide) (by decide)]; exact u2
  refine ⟨μ4, ?_, F4.fr, m4⟩
  rw [st, c1, st2, c3, b259_35]
  simp only [gI13, gR13, pI13, pR13, rv13, k13', if_true, Option.bind_some, e14]
  rw [if_neg (by rw [N_lt (by omega) (by omega)]; omega)]
  simp only [gI13, gR13, pI13, pR13, rv13, k13', if_true, Option.bind_some, rf_some, q6, q5]
  have s1 : jcp μ3 (.ref (M + 27)) 0 (.ref (M + 415)) 0 3 = _ := s1
  rw [s1]
  have kk : ∀ f, jk (jrowI μ3 (M + 415) f) = jk μ3 := fun f => rfl
  have rr : ∀ f, jrv (jrowI μ3 (M + 415) f) = jrv μ3 := fun f => rfl
  simp only [gI13, gR13, pI13, pR13, rv13, kk, rr, k13', if_true, Option.bind_some, rf_some, q7, q5]
  have s2 : jcp (jrowI μ3 (M + 415) (va_cpy (jiv μ3 (M + 27)) (jiv μ3 (M + 415)) 0 0 3)) (.ref (M + 28)) 0 (.ref (M + 415)) 3 3 = some μ4 := s2
  rw [s2]
  simp only [gI13, gR13, pI13, pR13, rv13, Q4.k13, Q4.f.1, if_true, Option.bind_some, rf_some, ro]
  rfl
end LAY
