/-! THE REFERENCE: awake -/
/-- as it was ahead of the thought -/
def wkS (σ τ : SG) : SG := ((τ.1.1, σ.1.2), σ.2.1, σ.2.2.1, τ.2.2.2.1, τ.2.2.2.2.1, σ.2.2.2.2.2)
def F4m (M : Nat) (μ μ' : jM) : Prop := Fx (fun a => M + 1 ≤ a ∧ a < M + 23) (fun a _ => M + 23 ≤ a ∧ a < M + 27) μ μ'
section LAY
variable {μ μ' μ'' ν : jM} {S S' : Nat → Prop} {T T' : Nat → Nat → Prop} {M g h t s n w d D i j k x y a b c f q : Nat} {A B C : GA} {σ τ : SG} {G : Nat → DG} {l l' : List CL}
theorem F4m.keep (F : F4m M μ μ') (ht : t < 14) (hg : g < 4) (h : GW μ (aA M t g)) : GW μ' (aA M t g) ∧ rG μ' (aA M t g) = rG μ (aA M t g) := aA_keep F (fun a h1 h2 q => by omega) (fun a j h1 h2 q => by omega) ht hg h
theorem F4m.fd (F : F4m M μ μ') : FD (M + 424) μ μ' := Fx.fd F (fun a k => by omega) (fun a j k => by omega)
/-- the main grids are others now -/
theorem MR.mains (h : MR μ M σ) (F : F4m M μ μ') (hG : ∀ g, g < 4 → GVR μ' (M + 424) (mA M g) ∧ dM μ' (mA M g) = G g) : MR μ' M ((G, σ.1.2), σ.2) := by
  obtain ⟨hq, hA, hG0, hr, hu, hi, ht, hc, hm, hs⟩ := h
  have iv : ∀ a, ¬ (M + 1 ≤ a ∧ a < M + 23) → jiv μ' a = jiv μ a := fun a k => Fx.iv F k
  have iM : jiv μ' M = jiv μ M := iv M (by omega)
  refine ⟨Fx.qs F hq (fun a j k => Or.inr (Or.inl k)), fun t ht k hk => (F.keep ht hk (hA t ht k hk)).1, hG, fun c hc => ?_, hu.keep F.fd (by rw [iM]) (fun t g ht hg hw => F.keep ht hg hw), hi.keep F.fd (by rw [iM]) (by rw [iM]) (iv _ (by omega)) (fun t g _ ht hg hw => F.keep ht hg hw), ?_, hc.keep (fun a ha => iv a (by omega)), ?_, fun i hi => ?_⟩
  · rw [iv (M + 27) (by omega), iv (M + 28) (by omega)]; exact hr c hc
  · obtain ⟨b1, b2, b3⟩ := ht
    exact ⟨b1, by rw [iM]; exact b2, by rw [iv (M + 399) (by omega)]; exact b3⟩
  · show jiv μ' M 36 = _
    rw [iM]; exact hm
  · rw [iv (M + 416) (by omega), iv (M + 417) (by omega), iv (M + 419 + i) (by omega)]
    exact hs i hi
theorem wk_lays (hA : AA μ M) : ∀ (m g : Nat) (μ1 : jM), g + m = 4 → F4m M μ μ1 → QS μ1 M → (∀ h, h < 4 → GW μ1 (mA M h)) → (∀ h, h < g → rG μ1 (mA M h) = rG μ (aA M 13 h)) → ∃ μ', jR (d + 2) 249 2 [.ref M, .int (N g)] [] μ1 = jR (d + 2) 249 2 [.ref M, .int (N 4)] [] μ' ∧ F4m M μ μ' ∧ QS μ' M ∧ (∀ h, h < 4 → GW μ' (mA M h)) ∧ ∀ h, h < 4 → rG μ' (mA M h) = rG μ (aA M 13 h) := by
  intro m
  induction m with
  | zero =>
    intro g μ1 hg F q hm hv
    have : g = 4 := by omega
    subst this
    exact ⟨μ1, rfl, F, q, hm, hv⟩
  | succ m ih =>
    intro g μ1 hg F q hm hv
    have hg4 : g < 4 := by omega
    obtain ⟨o1, o2⟩ := F.keep (show 13 < 14 by decide) hg4 (hA 13 (by decide) g hg4)
    have F1 : Fx (SA (mA M g)) (fun a _ => a = M + 23 + g) μ1 (cpF (gcI μ1 (aA M 13 g) (mA M g)) (aA M 13 g) (mA M g) 24) := cpF_fr
    obtain ⟨e1, e2, e3⟩ := cpF_rd (mA_ok (M := M) hg4) (ma_dis (M := M) hg4 hg4 (show 13 < 14 by decide)).2 o1 (hm g hg4).2.2
    have st := r_layBack (d := d) q (show 13 < 14 by decide) hg4 o1.2.2
    generalize cpF (gcI μ1 (aA M 13 g) (mA M g)) (aA M 13 g) (mA M g) 24 = μ2 at *
    have e3 : ∀ j, j ≠ g → jiv μ2 (M + 1) j = jiv μ1 (M + 1) j := e3
    have f2 : F4m M μ1 μ2 := F1.mono (fun a k => by
      have k := SA_m k
      omega) (fun a j k => by
      have k : a = M + 23 + g := k
      omega)
    obtain ⟨μ', v1, v2, v3, v5, v6⟩ := ih (g + 1) μ2 (by omega) (Fx.trans F f2) (Fx.qs f2 q (fun a j k => Or.inr (Or.inl k))) (fun h hh => by
      by_cases e : h = g
      · subst e; exact e1
      · exact (cpF_mside e hg4 hh F1 e3 (hm h hh)).1) (fun h hh => by
      by_cases e : h = g
      · subst e; rw [e2]; exact o2
      · rw [(cpF_mside e hg4 (by omega) F1 e3 (hm h (by omega))).2]
        exact hv h (by omega))
    refine ⟨μ', ?_, v2, v3, v5, v6⟩
    rw [b249_2, if_pos (by show N g < N 4; rw [N_lt (by omega) (by decide)]; omega)]
    simp only [gI13, gR13, pI13, pR13, rv13, Option.bind_some, Option.bind_none, if_true, if_false, true_or, or_true, false_or, or_false, true_and, and_true, false_and, and_false, decide_eq_true_eq, decide_true, decide_false, eq_self, not_true_eq_false, not_false_eq_true, jfit0, N_lit, N_add, N_mul, NEG_eq, pl_none, pl_some, rf_some, rf_none, jun_ref, jun_null, ir_ref, ir_null, jr_rf, jun_rf, Option.toList_some, Option.toList_none, List.nil_append, List.cons_append, q.k13, st]
    rw [b249_14]
    simp only [N_lit, N_add]
    exact v1
/-- the clashes back, in memory -/
def wkM (μ : jM) (M n : Nat) (b : Int32) : jM := jrowI (jrowI (jrowI (jrowI (jsetI (jsetI μ M 35 (N n)) M 36 b) (M + 405) (va_cpy (jiv μ (M + 409)) (jiv μ (M + 405)) 2 0 80)) (M + 406) (va_cpy (jiv μ (M + 409)) (jiv μ (M + 406)) 82 0 80)) (M + 407) (va_cpy (jiv μ (M + 409)) (jiv μ (M + 407)) 162 0 80)) (M + 408) (va_cpy (jiv μ (M + 410)) (jiv μ (M + 408)) 0 0 80)
theorem r_wake46 {bb : Nat} {u1 : Value} (hq : QS μ M) (h2 : bb < 2) : jR (d + 1) 249 46 [.ref M, u1] [.int (N bb), .ref M] (jsetI μ M 35 (N n)) = some (none, wkM μ M n (N bb)) := by
  obtain ⟨⟨q41, q42⟩, k9, k10⟩ := hq.kept
  obtain ⟨⟨q37, q38, q39, q40⟩, k5, k6, k7, k8⟩ := hq.cl
  have k13 := hq.k13
  have jf : jfit 2 (N bb) = true := by
    rcases (show bb = 0 ∨ bb = 1 by omega) with rfl | rfl
    · exact jfit2_0
    · exact jfit2_1
  have hX : ∃ X, X = jsetI (jsetI μ M 35 (N n)) M 36 (N bb) := ⟨_, rfl⟩
  obtain ⟨X, hX⟩ := hX
  have Xk : jk X = jk μ := by subst hX; rfl
  have Xl : jl X = jl μ := by subst hX; rfl
  have Xr : jrv X = jrv μ := by subst hX; rfl
  have Xv : ∀ a, a ≠ M → jiv X a = jiv μ a := fun a ha => by subst hX; exact (iv_setIn ha).trans (iv_setIn ha)
  have c1 := cp_N (μ := X) (a := M + 409) (b := M + 405) (sp := 2) (dp := 0) (n0 := 80) (by rw [Xk]; exact k9.1) (by rw [Xk]; exact k5.1) (by rw [Xl, k9.2]; decide) (by rw [Xl, k5.2]; decide) (by rw [Xl, k9.2]; decide) (by rw [Xl, k5.2]; decide)
  rw [Xv _ (by omega), Xv _ (by omega)] at c1
  generalize hf1 : va_cpy (jiv μ (M + 409)) (jiv μ (M + 405)) 2 0 80 = f1 at *
  have c2 := cp_N (μ := jrowI X (M + 405) f1) (a := M + 409) (b := M + 406) (sp := 82) (dp := 0) (n0 := 80) (by show jk X _ = 20; rw [Xk]; exact k9.1) (by show jk X _ = 20; rw [Xk]; exact k6.1) (by show 82 + 80 ≤ jl X (M + 409); rw [Xl, k9.2]; decide) (by show 0 + 80 ≤ jl X (M + 406); rw [Xl, k6.2]; decide) (by show jl X (M + 409) < _; rw [Xl, k9.2]; decide) (by show jl X (M + 406) < _; rw [Xl, k6.2]; decide)
  rw [iv_rowIn (show ¬ M + 409 = M + 405 by omega), iv_rowIn (show ¬ M + 406 = M + 405 by omega), Xv _ (by omega), Xv _ (by omega)] at c2
  generalize hf2 : va_cpy (jiv μ (M + 409)) (jiv μ (M + 406)) 82 0 80 = f2 at *
  have c3 := cp_N (μ := jrowI (jrowI X (M + 405) f1) (M + 406) f2) (a := M + 409) (b := M + 407) (sp := 162) (dp := 0) (n0 := 80) (by show jk X _ = 20; rw [Xk]; exact k9.1) (by show jk X _ = 20; rw [Xk]; exact k7.1) (by show 162 + 80 ≤ jl X (M + 409); rw [Xl, k9.2]; decide) (by show 0 + 80 ≤ jl X (M + 407); rw [Xl, k7.2]; decide) (by show jl X (M + 409) < _; rw [Xl, k9.2]; decide) (by show jl X (M + 407) < _; rw [Xl, k7.2]; decide)
  rw [iv_rowIn (show ¬ M + 409 = M + 406 by omega), iv_rowIn (show ¬ M + 409 = M + 405 by omega), iv_rowIn (show ¬ M + 407 = M + 406 by omega), iv_rowIn (show ¬ M + 407 = M + 405 by omega), Xv _ (by omega), Xv _ (by omega)] at c3
  generalize hf3 : va_cpy (jiv μ (M + 409)) (jiv μ (M + 407)) 162 0 80 = f3 at *
  have c4 := cpB_N (μ := jrowI (jrowI (jrowI X (M + 405) f1) (M + 406) f2) (M + 407) f3) (a := M + 410) (b := M + 408) (sp := 0) (dp := 0) (n0 := 80) (by show jk X _ = 21; rw [Xk]; exact k10.1) (by show jk X _ = 21; rw [Xk]; exact k8.1) (by show 0 + 80 ≤ jl X (M + 410); rw [Xl, k10.2]; decide) (by show 0 + 80 ≤ jl X (M + 408); rw [Xl, k8.2]; decide) (by show jl X (M + 410) < _; rw [Xl, k10.2]; decide) (by show jl X (M + 408) < _; rw [Xl, k8.2]; decide)
  rw [iv_rowIn (show ¬ M + 410 = M + 407 by omega), iv_rowIn (show ¬ M + 410 = M + 406 by omega), iv_rowIn (show ¬ M + 410 = M + 405 by omega), iv_rowIn (show ¬ M + 408 = M + 407 by omega), iv_rowIn (show ¬ M + 408 = M + 406 by omega), iv_rowIn (show ¬ M + 408 = M + 405 by omega), Xv (M + 408) (by omega), Xv (M + 410) (by omega)] at c4
  have er : wkM μ M n (N bb) = jrowI (jrowI (jrowI (jrowI X (M + 405) f1) (M + 406) f2) (M + 407) f3) (M + 408) (va_cpy (jiv μ (M + 410)) (jiv μ (M + 408)) 0 0 80) := by
    unfold wkM
    rw [hf1, hf2, hf3, hX]
  rw [er, b249_46 (hs0 := ir_ref)]
  have kX : jk X M = 13 := by rw [Xk]; exact k13
  have k35 : jk (jsetI μ M 35 (N n)) M = 13 := k13
  have c1 : jcp X (.ref (M + 409)) 2 (.ref (M + 405)) 0 80 = _ := c1
  have c2 : jcp (jrowI X (M + 405) f1) (.ref (M + 409)) 82 (.ref (M + 406)) 0 80 = _ := c2
  have c3 : jcp (jrowI (jrowI X (M + 405) f1) (M + 406) f2) (.ref (M + 409)) 162 (.ref (M + 407)) 0 80 = _ := c3
  have c4 : jcp (jrowI (jrowI (jrowI X (M + 405) f1) (M + 406) f2) (M + 407) f3) (.ref (M + 410)) 0 (.ref (M + 408)) 0 80 = _ := c4
  simp only [gI13, gR13, pI13, pR13, rv13, k35, jf, and_true, ← hX, kX, Xr, q37, q38, q39, q40, q41, q42, if_true, Option.bind_some, rf_some, c1, jk_rowI, rv_rowI, c2, c3, c4]
theorem r_wake (h : MR μ M σ) (ht : TH μ M τ) : ∃ μ', jC (d + 2) 249 [.ref M] μ = some (none, μ') ∧ FR M μ μ' ∧ MR μ' M (wkS σ τ) := by
  obtain ⟨hq, hA, hg, hr, hu, hi, htt, hcc, hm, hs⟩ := id h
  obtain ⟨t1, t2, t3, t4, t5⟩ := ht
  obtain ⟨μ1, c1, F1, Q1, g1, r1⟩ := wk_lays (d := d) hA 4 0 μ (by decide) Fx.refl hq (fun g hg4 => (hg g hg4).1.gw) (fun h hh => by omega)
  have m1 : MR μ1 M ((τ.1.1, σ.1.2), σ.2) := h.mains F1 (fun g hg4 => by
    obtain ⟨z1, z2⟩ := t1 g hg4
    obtain ⟨x1, x2⟩ := z1.to F1.fd (g1 g hg4) (r1 g hg4)
    exact ⟨x1, x2.trans z2⟩)
  have e9 : jiv μ1 (M + 409) = jiv μ (M + 409) := Fx.iv F1 (by omega)
  have e10 : jiv μ1 (M + 410) = jiv μ (M + 410) := Fx.iv F1 (by omega)
  obtain ⟨⟨q41, q42⟩, k9, k10⟩ := Q1.kept
  have s0 := ent_get (μ := μ1) (i := 0) k9.1 k9.2 (by decide) (by decide)
  rw [e9, t2] at s0
  have s0 : jaI μ1 (.ref (M + 409)) 0 = some (N τ.2.2.2.1.length) := s0
  have k9' : jk (jsetI μ1 M 35 (N τ.2.2.2.1.length)) (M + 409) = 20 := k9.1
  have s1 := ent_get (μ := jsetI μ1 M 35 (N τ.2.2.2.1.length)) (i := 1) k9' k9.2 (by decide) (by decide)
  rw [show jiv (jsetI μ1 M 35 (N τ.2.2.2.1.length)) (M + 409) = jiv μ1 (M + 409) from iv_setIn (by omega), e9, t3] at s1
  have s1 : jaI (jsetI μ1 M 35 (N τ.2.2.2.1.length)) (.ref (M + 409)) 1 = _ := s1
  have st : jC (d + 2) 249 [.ref M] μ = jR (d + 2) 249 2 [.ref M, .int (N 4)] [] μ1 := by
    rw [jC_run (by decide)]
    show jR (d + 2) 249 0 [.ref M, .retAddr 0] [] μ = _
    rw [b249_0]
    exact c1
  have F2 : ∀ b : Int32, Fx (fun a => a = M ∨ (M + 405 ≤ a ∧ a < M + 409)) (fun _ _ => False) μ1 (wkM μ1 M τ.2.2.2.1.length b) := fun b => by
    unfold wkM
    refine Fx.rowI (Fx.rowI (Fx.rowI (Fx.rowI (Fx.setI (Fx.setI Fx.refl (Or.inl rfl)) (Or.inl rfl)) ?_) ?_) ?_) ?_ <;> exact Or.inr (by omega)
  have vM : ∀ (b : Int32) j, jiv (wkM μ1 M τ.2.2.2.1.length b) M j = if j = 36 then b else if j = 35 then N τ.2.2.2.1.length else jiv μ1 M j := fun b j => by
    unfold wkM
    rw [iv_rowIn (show ¬ M = M + 408 by omega), iv_rowIn (show ¬ M = M + 407 by omega), iv_rowIn (show ¬ M = M + 406 by omega), iv_rowIn (show ¬ M = M + 405 by omega)]
    simp only [iv_setI, true_and]
  have key : ∀ bb : Nat, (if τ.2.2.2.2.1 = true then N 1 else N 0) = N bb → FR M μ (wkM μ1 M τ.2.2.2.1.length (N bb)) ∧ MR (wkM μ1 M τ.2.2.2.1.length (N bb)) M (wkS σ τ) := by
    intro bb hb
    have hl : MRc (wkM μ1 M τ.2.2.2.1.length (N bb)) M τ.2.2.2.1 := by
      refine ⟨t4, by rw [vM, if_neg (by decide), if_pos rfl], fun i c hi => ?_⟩
      have hil : i < τ.2.2.2.1.length := (List.getElem?_eq_some_iff.mp hi).1
      obtain ⟨v1, v2, v3, v4⟩ := t5 i c hi
      unfold wkM
      rw [iv_rowIn (show ¬ M + 405 = M + 408 by omega), iv_rowIn (show ¬ M + 405 = M + 407 by omega), iv_rowIn (show ¬ M + 405 = M + 406 by omega), iv_rowIe, iv_rowIn (show ¬ M + 406 = M + 408 by omega), iv_rowIn (show ¬ M + 406 = M + 407 by omega), iv_rowIe, iv_rowIn (show ¬ M + 407 = M + 408 by omega), iv_rowIe, iv_rowIe]
      refine ⟨?_, ?_, ?_, ?_⟩
      · rw [cpy_in (by omega) (by omega), Nat.sub_zero, e9]; exact v1
      · rw [cpy_in (by omega) (by omega), Nat.sub_zero, e9]; exact v2
      · rw [cpy_in (by omega) (by omega), Nat.sub_zero, e9]; exact v3
      · rw [cpy_in (by omega) (by omega), Nat.sub_zero, Nat.zero_add, e10]; exact v4
    obtain ⟨z1, z2⟩ := m1.clm (l := τ.2.2.2.1) (m := τ.2.2.2.2.1) (F2 (N bb)) (fun a k => k) (fun j h1 h2 => by rw [vM, if_neg h2, if_neg h1]) hl (by
      show jiv (wkM μ1 M τ.2.2.2.1.length (N bb)) M 36 = _
      rw [vM, if_pos rfl]; exact hb.symm)
    refine ⟨FR.trans (Fx.mono F1 (fun a k => by omega) (fun a j k => by omega)) z1, z2⟩
  have k13 : jk (jsetI μ1 M 35 (N τ.2.2.2.1.length)) M = 13 := Q1.k13
  have rX : jrv (jsetI μ1 M 35 (N τ.2.2.2.1.length)) = jrv μ1 := rfl
  rw [st, b249_2, if_neg (by decide)]
  simp only [gI13, gR13, pI13, pR13, rv13, Q1.k13, q41, s0, jfit0, and_true, if_true, Option.bind_some, rf_some, k13, rX, s1]
  by_cases em : τ.2.2.2.2.1 = true
  · obtain ⟨z1, z2⟩ := key 1 (if_pos em)
    rw [if_pos em, if_pos (show N 1 = 1 from rfl)]
    exact ⟨_, r_wake46 (bb := 1) Q1 (by decide), z1, z2⟩
  · obtain ⟨z1, z2⟩ := key 0 (if_neg em)
    rw [if_neg em, if_neg (by decide)]
    exact ⟨_, r_wake46 (bb := 0) Q1 (by decide), z1, z2⟩
end LAY
