/-! THE REFERENCE's CALLS: merge -/
section LAY
variable {μ μ' μ'' ν : jM} {S S' : Nat → Prop} {T T' : Nat → Nat → Prop} {M g h t s n w d D i j k x y a b c f q : Nat} {A B C : GA} {σ : SG} {G : Nat → DG} {o o' ob ox ot : Option Nat} {R : Nat → Nat × Nat} {l l' : List CL} {V : Nat → DC} {K : List Int32} {W Wf : DG} {m : Bool}
/-- the fourth grid and the clashes changed -/
theorem MR.me (h : MR μ M σ) (F : FMe M μ μ') (g3 : GVR μ' (M + 424) (mA M 3)) (e3 : dM μ' (mA M 3) = W) (hl : MRc μ' M l) : MR μ' M (scl (stg σ 3 W) l σ.2.2.2.2.1) := by
  obtain ⟨hq, hA, hG0, hr, hu, hi, ht, hc, hm, hs⟩ := h
  have fd := F.fd
  have iv : ∀ a, ¬ SMe M a → jiv μ' a = jiv μ a := fun a k => F.iv k
  have keep : ∀ t k, t < 14 → k < 4 → GW μ (aA M t k) → GW μ' (aA M t k) ∧ rG μ' (aA M t k) = rG μ (aA M t k) := fun t k ht hk hw => aA_keep F.1 (fun a h1 h2 q => by unfold SMe SMg at q; omega) (fun a j h1 h2 q => by
    have q : a = M + 23 + 3 := q
    omega) ht hk hw
  have gg : GG μ M σ.1.1 := ⟨hq, fun g hg => hG0 g (by omega)⟩
  have gg' := F.gg gg
  refine ⟨gg'.1, fun t ht k hk => (keep t k ht hk (hA t ht k hk)).1, fun k hk => ?_, fun c hc => ?_, hu.keep fd (F.2.2 14 (by decide)) keep, hi.keep fd (F.2.2 49 (by decide)) (F.2.2 50 (by decide)) (iv _ (by unfold SMe SMg; omega)) (fun t k _ ht hk hw => keep t k ht hk hw), ?_, hl, ?_, fun i hi => ?_⟩
  · show GVR μ' (M + 424) (mA M k) ∧ dM μ' (mA M k) = (if k = 3 then W else σ.1.1 k)
    by_cases ek : k = 3
    · subst ek
      rw [if_pos rfl]; exact ⟨g3, e3⟩
    · rw [if_neg ek]
      exact gg'.2 k (by omega)
  · rw [iv (M + 27) (by unfold SMe SMg; omega), iv (M + 28) (by unfold SMe SMg; omega)]; exact hr c hc
  · obtain ⟨b1, b2, b3⟩ := ht
    exact ⟨b1, by rw [F.2.2 16 (by decide)]; exact b2, by rw [iv (M + 399) (by unfold SMe SMg; omega)]; exact b3⟩
  · show jiv μ' M 36 = _
    rw [F.2.2 36 (by decide)]; exact hm
  · rw [iv (M + 416) (by unfold SMe SMg; omega), iv (M + 417) (by unfold SMe SMg; omega), iv (M + 419 + i) (by unfold SMe SMg; omega)]
    exact hs i hi
/-- the clashes changed, and whether the merge is the latest -/
theorem MR.clm (h : MR μ M σ) (F : Fx S (fun _ _ => False) μ μ') (hS : ∀ a, S a → a = M ∨ (M + 405 ≤ a ∧ a < M + 409)) (hj : ∀ j, j ≠ 35 → j ≠ 36 → jiv μ' M j = jiv μ M j) (hl : MRc μ' M l) (hm : MRm μ' M m) : FR M μ μ' ∧ MR μ' M (scl σ l m) := by
  have iv : ∀ a, a ≠ M → ¬ (M + 405 ≤ a ∧ a < M + 409) → jiv μ' a = jiv μ a := fun a h1 h2 => F.iv (fun q => (hS a q).elim h1 h2)
  obtain ⟨l1, l2, l3, l4, l5⟩ := h.low F (fun a k => by have := hS a k; omega) (hj 14 (by decide) (by decide)) (hj 49 (by decide) (by decide)) (hj 50 (by decide) (by decide))
  obtain ⟨-, -, -, hr, -, -, ht, -, -, hs⟩ := h
  refine ⟨F.mono (fun a k => by have := hS a k; omega) (fun a j k => k.elim), l1, l2, l3, fun x hx => ?_, l4, l5, ?_, hl, hm, fun i hi => ?_⟩
  · rw [iv (M + 27) (by omega) (by omega), iv (M + 28) (by omega) (by omega)]; exact hr x hx
  · obtain ⟨b1, b2, b3⟩ := ht
    exact ⟨b1, by rw [hj 16 (by decide) (by decide)]; exact b2, by rw [iv (M + 399) (by omega) (by omega)]; exact b3⟩
  · rw [iv (M + 416) (by omega) (by omega), iv (M + 417) (by omega) (by omega), iv (M + 419 + i) (by omega) (by omega)]
    exact hs i hi
theorem MR.gg (h : MR μ M σ) : GG μ M σ.1.1 := ⟨h.1, fun g hg => h.2.2.1 g (by omega)⟩
theorem MR.k3 (h : MR μ M σ) : K3 μ M := (h.gq (g := 3) (by decide)).1.2.2.2
/-- what merging wants of what is held -/
def WM (σ : SG) : Prop := (∀ c, c < 3 → (σ.1.2.1 c).1 < 6 ∧ (σ.1.2.1 c).2 < 100) ∧ ∀ g, g < 4 → KK (σ.1.1 g) ∧ (ky1 (σ.1.1 g)).Nodup
theorem p_merge (h : MR μ M σ) (hw : WM σ) : ROP M (jC (d + 6) 224 [.ref M] μ) μ (o_merge σ) := by
  have hq := h.1
  have k13 := hq.k13
  have st : jC (d + 6) 224 [.ref M] μ = jR (d + 6) 224 0 [.ref M] [] μ := by
    rw [jC_run (by decide)]; rfl
  have mg := r_merges (d := d) h.gg ⟨h.2.2.2.1, hw.1⟩ h.k3 (hw.2 1 (by decide)).1 (hw.2 2 (by decide)).1 (hw.2 1 (by decide)).2 (hw.2 2 (by decide)).2
  rw [st, b224_0]
  unfold o_merge
  rcases mg with ⟨a1, a2⟩ | ⟨W, μ1, a1, a2, a3, a4, a5, a6, a7⟩
  · simp only [a1, gI13, gR13, pI13, pR13, rv13, k13, a2, if_true, Option.bind_some]
    show ROP M (jR (d + 6) 224 4 [.ref M] [.int (N 0)] μ) μ (aFULL, σ)
    rw [b224_4, if_pos (show N 0 = 0 from rfl)]
    exact ⟨μ, rfl, FR.refl, h⟩
  · have m1 := h.me a3 a4 a5 a6
    have F2 : Fx (fun a => a = M) (fun _ _ => False) μ1 (jsetI μ1 M 36 (N 1)) := Fx.setI Fx.refl rfl
    obtain ⟨z1, z2⟩ := m1.clm (l := W.2) (m := true) F2 (fun a k => Or.inl k) (fun j _ hj => ivj hj) (by
      obtain ⟨y1, y2, y3⟩ := a6
      refine ⟨y1, ?_, ?_⟩
      · show (if M = M ∧ 35 = 36 then _ else jiv μ1 M 35) = _
        rw [if_neg (by omega)]; exact y2
      · rw [iv_setIn (by omega), iv_setIn (by omega), iv_setIn (by omega), iv_setIn (by omega)]; exact y3) (show (if M = M ∧ 36 = 36 then N 1 else jiv μ1 M 36) = if true = true then N 1 else N 0 by rw [if_pos ⟨rfl, rfl⟩, if_pos rfl])
    have q1 := m1.1
    have e35 : jiv (jsetI μ1 M 36 (N 1)) M 35 = N W.2.length := by
      show (if M = M ∧ 35 = 36 then _ else jiv μ1 M 35) = _
      rw [if_neg (by omega)]; exact a6.2.1
    simp only [a1, gI13, gR13, pI13, pR13, rv13, k13, a2, if_true, Option.bind_some]
    show ROP M (jR (d + 6) 224 4 [.ref M] [.int (N 1)] μ1) μ (N W.2.length, scl (stg σ 3 W.1) (W.2.map uns0) true)
    rw [b224_4, if_neg (by decide), un_map a7]
    refine ⟨jsetI μ1 M 36 (N 1), ?_, a3.fr.trans z1, z2⟩
    have k13' : jk (jsetI μ1 M 36 (N 1)) M = 13 := q1.k13
    simp only [gI13, gR13, pI13, pR13, rv13, Option.bind_some, Option.bind_none, if_true, if_false, true_or, or_true, false_or, or_false, true_and, and_true, false_and, and_false, decide_eq_true_eq, decide_true, decide_false, eq_self, not_true_eq_false, not_false_eq_true, jfit0, N_lit, N_add, N_mul, NEG_eq, pl_none, pl_some, rf_some, rf_none, jun_ref, jun_null, ir_ref, ir_null, jr_rf, jun_rf, Option.toList_some, Option.toList_none, List.nil_append, List.cons_append, q1.k13, jfit2_1, k13', e35]
end LAY
