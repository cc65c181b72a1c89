/-! THE REFERENCE: in thought -/
/-- what lies beside the state -/
def SN (M a : Nat) : Prop := a = M ∨ a = M + 43 ∨ (M + 111 ≤ a ∧ a < M + 115) ∨ (M + 182 ≤ a ∧ a < M + 186) ∨ (M + 253 ≤ a ∧ a < M + 257) ∨ (M + 324 ≤ a ∧ a < M + 328) ∨ (M + 400 ≤ a ∧ a < M + 405) ∨ (M + 409 ≤ a ∧ a < M + 415)
def TN (M a j : Nat) : Prop := (M + 395 ≤ a ∧ a < M + 399) ∨ a = M + 414 ∨ (a = M ∧ j = 34)
def FN (M : Nat) (μ μ' : jM) : Prop := Fx (SN M) (TN M) μ μ' ∧ ∀ j, (j = 14 ∨ j = 16 ∨ j = 35 ∨ j = 36 ∨ j = 49 ∨ j = 50) → jiv μ' M j = jiv μ M j
/-- what is kept in thought -/
def TH (μ : jM) (M : Nat) (σ : SG) : Prop := (∀ g, g < 4 → GVR μ (M + 424) (aA M 13 g) ∧ dM μ (aA M 13 g) = σ.1.1 g) ∧ jiv μ (M + 409) 0 = N σ.2.2.2.1.length ∧ (jiv μ (M + 409) 1 = if σ.2.2.2.2.1 = true then N 1 else N 0) ∧ σ.2.2.2.1.length ≤ 80 ∧ ∀ (i : Nat) (c : CL), σ.2.2.2.1[i]? = some c → jiv μ (M + 409) (2 + i) = c.1 ∧ jiv μ (M + 409) (82 + i) = c.2.1 ∧ jiv μ (M + 409) (162 + i) = c.2.2.1 ∧ jiv μ (M + 410) i = c.2.2.2
section LAY
variable {μ μ' μ'' ν : jM} {S S' : Nat → Prop} {T T' : Nat → Nat → Prop} {M g h t s n w d D i j k x y a b c f q : Nat} {A B C : GA} {σ τ : SG} {G : Nat → DG} {l l' : List CL}
theorem FN.refl : FN M μ μ := ⟨Fx.refl, fun _ _ => rfl⟩
theorem FN.trans (a : FN M μ μ') (b : FN M μ' μ'') : FN M μ μ'' := ⟨a.1.trans b.1, fun j h => (b.2 j h).trans (a.2 j h)⟩
theorem FN.fr (F : FN M μ μ') : FR M μ μ' := F.1.mono (fun a k => by unfold SN at k; omega) (fun a j k => by unfold TN at k; omega)
theorem FN.fd (F : FN M μ μ') : FD (M + 424) μ μ' := F.1.fd (fun a k => by unfold SN at k; omega) (fun a j k => by unfold TN at k; omega)
theorem FN.qs (F : FN M μ μ') (hq : QS μ M) : QS μ' M := F.1.qs hq (fun a j k => by
  unfold TN at k
  unfold SR
  omega)
theorem FN.iv (F : FN M μ μ') (h : ¬ SN M a) : jiv μ' a = jiv μ a := F.1.iv h
theorem FN.main (F : FN M μ μ') (hg : g < 4) (hG : GW μ (mA M g)) : GW μ' (mA M g) ∧ rG μ' (mA M g) = rG μ (mA M g) := by
  refine F.1.gw hG ?_ ?_ ?_ ?_ ?_ (fun j => ?_)
  · show ¬ SN M (M + 3 + g); unfold SN; omega
  · show ¬ SN M (M + 8 + g); unfold SN; omega
  · show ¬ SN M (M + 13 + g); unfold SN; omega
  · show ¬ SN M (M + 18 + g); unfold SN; omega
  · exact congrFun (F.iv (a := M + 1) (by unfold SN; omega)) _
  · show ¬ TN M (M + 23 + g) j; unfold TN; omega
theorem FN.rest (F : FN M μ μ') (ht : t < 13) (hg : g < 4) (hG : GW μ (aA M t g)) : GW μ' (aA M t g) ∧ rG μ' (aA M t g) = rG μ (aA M t g) := by
  refine F.1.gw hG ?_ ?_ ?_ ?_ ?_ (fun j => ?_)
  · show ¬ SN M (M + 46 + 5 * t + g); unfold SN; omega
  · show ¬ SN M (M + 117 + 5 * t + g); unfold SN; omega
  · show ¬ SN M (M + 188 + 5 * t + g); unfold SN; omega
  · show ¬ SN M (M + 259 + 5 * t + g); unfold SN; omega
  · exact congrFun (F.iv (a := M + 30 + t) (by unfold SN; omega)) _
  · show ¬ TN M (M + 330 + 5 * t + g) j; unfold TN; omega
/-- changes beside the state -/
theorem MR.aside (h : MR μ M σ) (F : FN M μ μ') (h13 : A3 μ' M 13) : MR μ' M σ := by
  obtain ⟨hq, hA, hg, hr, ⟨u1, u2, u3⟩, hi, ht, hc, hm, hs⟩ := h
  have fd := F.fd
  have iv : ∀ a, ¬ SN M a → jiv μ' a = jiv μ a := fun a k => F.iv k
  refine ⟨F.qs hq, fun t ht g hg => ?_, fun g hg4 => ?_, fun c hc => ?_, ⟨u1, by rw [F.2 14 (by decide)]; exact u2, fun i v hv g hg3 => ?_⟩, ?_, ?_, ?_, ?_, fun i hi => ?_⟩
  · by_cases e : t = 13
    · subst e; exact h13 g hg
    · exact (F.rest (by omega) hg (hA t ht g hg)).1
  · obtain ⟨z1, z2⟩ := hg g hg4
    obtain ⟨y1, y2⟩ := F.main hg4 z1.gw
    obtain ⟨x1, x2⟩ := z1.to fd y1 y2
    exact ⟨x1, x2.trans z2⟩
  · rw [iv (M + 27) (by unfold SN; omega), iv (M + 28) (by unfold SN; omega)]; exact hr c hc
  · have hil : i < σ.1.2.2.length := (List.getElem?_eq_some_iff.mp hv).1
    obtain ⟨z1, z2⟩ := u3 i v hv g hg3
    obtain ⟨y1, y2⟩ := F.rest (t := σ.1.2.2.length - 1 - i) (g := g) (by omega) (by omega) z1.gw
    obtain ⟨x1, x2⟩ := z1.to fd y1 y2
    exact ⟨x1, x2.trans z2⟩
  · rcases hi with ⟨e, h⟩ | ⟨b, e, a1, a2, a3, a4, a5, a6⟩
    · exact Or.inl ⟨e, by rw [F.2 49 (by decide)]; exact h⟩
    · refine Or.inr ⟨b, e, by rw [F.2 49 (by decide)]; exact a1, fun g hg => ?_, by rw [iv (M + 415) (by unfold SN; omega)]; exact a3, a4, by rw [F.2 50 (by decide)]; exact a5, fun i v hv g hg => ?_⟩
      · obtain ⟨z1, z2⟩ := a2 g hg
        obtain ⟨y1, y2⟩ := F.rest (t := 6) (g := g) (by decide) hg z1.gw
        obtain ⟨x1, x2⟩ := z1.to fd y1 y2
        exact ⟨x1, x2.trans z2⟩
      · have hil : i < b.2.2.length := (List.getElem?_eq_some_iff.mp hv).1
        obtain ⟨z1, z2⟩ := a6 i v hv g hg
        obtain ⟨y1, y2⟩ := F.rest (t := 7 + (b.2.2.length - 1 - i)) (g := g) (by omega) (by omega) z1.gw
        obtain ⟨x1, x2⟩ := z1.to fd y1 y2
        exact ⟨x1, x2.trans z2⟩
  · obtain ⟨b1, b2, b3⟩ := ht
    exact ⟨b1, by rw [F.2 16 (by decide)]; exact b2, by rw [iv (M + 399) (by unfold SN; omega)]; exact b3⟩
  · obtain ⟨b1, b2, b3⟩ := hc
    exact ⟨b1, by rw [F.2 35 (by decide)]; exact b2, by rw [iv (M + 405) (by unfold SN; omega), iv (M + 406) (by unfold SN; omega), iv (M + 407) (by unfold SN; omega), iv (M + 408) (by unfold SN; omega)]; exact b3⟩
  · show jiv μ' M 36 = _
    rw [F.2 36 (by decide)]; exact hm
  · rw [iv (M + 416) (by unfold SN; omega), iv (M + 417) (by unfold SN; omega), iv (M + 419 + i) (by unfold SN; omega)]
    exact hs i hi
/-- what is kept in thought stays -/
theorem TH.keep (h : TH μ M σ) (F : Fx S T μ μ') (fd : FD (M + 424) μ μ') (hS : ∀ a, S a → ¬ (M + 28 < a ∧ a < M + 399) ∧ a ≠ M + 409 ∧ a ≠ M + 410) (hT : ∀ a j, T a j → ¬ (M + 28 < a ∧ a < M + 399)) : TH μ' M σ := by
  obtain ⟨a1, a2, a3, a4, a5⟩ := h
  have e9 : jiv μ' (M + 409) = jiv μ (M + 409) := F.iv (fun q => (hS _ q).2.1 rfl)
  have e10 : jiv μ' (M + 410) = jiv μ (M + 410) := F.iv (fun q => (hS _ q).2.2 rfl)
  refine ⟨fun g hg => ?_, by rw [e9]; exact a2, by rw [e9]; exact a3, a4, by rw [e9, e10]; exact a5⟩
  obtain ⟨z1, z2⟩ := a1 g hg
  obtain ⟨y1, y2⟩ := aA_keep F (fun a h1 h2 q => (hS a q).1 ⟨h1, h2⟩) (fun a j h1 h2 q => hT a j q ⟨h1, h2⟩) (show 13 < 14 by decide) hg z1.gw
  obtain ⟨x1, x2⟩ := z1.to fd y1 y2
  exact ⟨x1, x2.trans z2⟩
theorem TH.me (h : TH μ M σ) (F : FMe M μ μ') : TH μ' M σ := h.keep F.1 F.fd (fun a k => by unfold SMe SMg at k; omega) (fun a j k => by
  have k : a = M + 23 + 3 := k
  omega)
theorem TH.f1 (h : TH μ M σ) (hg : g < 4) (F : FM1 M g μ μ') : TH μ' M σ := h.keep F.1 (F.1.fd (fun a k => by
  have k : a = M + 1 ∨ SMg M g a := k
  unfold SMg at k; omega) (fun a j k => by
  have k : a = M + 23 + g := k
  omega)) (fun a k => by
  have k : a = M + 1 ∨ SMg M g a := k
  unfold SMg at k; omega) (fun a j k => by
  have k : a = M + 23 + g := k
  omega)
theorem cpB_N {sp dp n0 : Nat} (hk : jk μ a = 21) (hk' : jk μ b = 21) (h1 : sp + n0 ≤ jl μ a) (h2 : dp + n0 ≤ jl μ b) (b1 : jl μ a < 1000000) (b2 : jl μ b < 1000000) : jcp μ (.ref a) (N sp) (.ref b) (N dp) (N n0) = some (jrowI μ b (va_cpy (jiv μ a) (jiv μ b) sp dp n0)) := by
  have le : ∀ x : Nat, x < 2147483648 → (0 : Int32) ≤ N x := fun x hx => by rw [show (0 : Int32) = N 0 from rfl, N_le (by decide) hx]; omega
  rw [cp_eq, N_nat (by omega), N_nat (by omega), N_nat (by omega), if_pos]
  exact ⟨Or.inl ⟨by rw [hk, hk'], Or.inr (Or.inl hk)⟩, le _ (by omega), le _ (by omega), le _ (by omega), h1, h2⟩
/-- the grids laid aside in thought -/
theorem th_lays (hm : ∀ g, g < 4 → GW μ (mA M g)) : ∀ (m g : Nat) (μ1 : jM), g + m = 4 → Fx (SN M) (TN M) μ μ1 ∧ jiv μ1 M = jiv μ M → QS μ1 M → AA μ1 M → (∀ h, h < g → rG μ1 (aA M 13 h) = rG μ (mA M h)) → ∃ μ', jR (d + 2) 246 2 [.ref M, .int (N g)] [] μ1 = jR (d + 2) 246 2 [.ref M, .int (N 4)] [] μ' ∧ (Fx (SN M) (TN M) μ μ' ∧ jiv μ' M = jiv μ M) ∧ QS μ' M ∧ AA μ' M ∧ ∀ h, h < 4 → rG μ' (aA M 13 h) = rG μ (mA M h) := by
  intro m
  induction m with
  | zero =>
    intro g μ1 hg F q a hv
    have : g = 4 := by omega
    subst this
    exact ⟨μ1, rfl, F, q, a, hv⟩
  | succ m ih =>
    intro g μ1 hg F q a hv
    have hg4 : g < 4 := by omega
    have FNn : FN M μ μ1 := ⟨F.1, fun j _ => by rw [F.2]⟩
    obtain ⟨o1, o2⟩ := FNn.main hg4 (hm g hg4)
    have F1 : Fx (SA (aA M 13 g)) (fun a _ => a = M + 330 + 5 * 13 + g) μ1 (cpF (gcI μ1 (mA M g) (aA M 13 g)) (mA M g) (aA M 13 g) 24) := cpF_fr
    obtain ⟨e1, e2, e3⟩ := cpF_rd (aA_ok (M := M) hg4 (show 13 < 14 by omega)) (ma_dis (M := M) hg4 hg4 (show 13 < 14 by omega)).1 o1 (a 13 (by decide) g hg4).2.2
    have st := r_lay (d := d) q (show 13 < 14 by omega) hg4 o1.2.2
    generalize cpF (gcI μ1 (mA M g) (aA M 13 g)) (mA M g) (aA M 13 g) 24 = μ2 at *
    have e3 : ∀ j, j ≠ g → jiv μ2 (M + 30 + 13) j = jiv μ1 (M + 30 + 13) j := e3
    have F2 : Fx (SN M) (TN M) μ1 μ2 := F1.mono (fun a k => by
      have k := SA_a (show 13 < 14 by decide) hg4 k
      unfold SN; omega) (fun a j k => by
      have k : a = M + 330 + 5 * 13 + g := k
      unfold TN; omega)
    have i2 := (cpF_fi (by decide) (show 13 < 14 by decide) hg4 F1).2
    have q2 : QS μ2 M := ((cpF_fi (by decide) (show 13 < 14 by decide) hg4 F1).1).qs q
    obtain ⟨μ', v1, v2, v3, v4, v6⟩ := ih (g + 1) μ2 (by omega) ⟨F.1.trans F2, i2.trans F.2⟩ q2 (cpF_aa (by decide) hg4 F1 e3 e1 a) (fun h hh => by
      by_cases e : h = g
      · subst e; rw [e2]; exact o2
      · rw [(cpF_side (by omega) hg4 (by omega) e F1 e3 (a 13 (by decide) h (by omega))).2]
        exact hv h (by omega))
    refine ⟨μ', ?_, v2, v3, v4, v6⟩
    rw [b246_2, if_pos (by show N g < N 4; rw [N_lt (by omega) (by decide)]; omega)]
    simp only [gI13, gR13, pI13, pR13, rv13, Option.bind_some, Option.bind_none, if_true, if_false, true_or, or_true, false_or, or_false, true_and, and_true, false_and, and_false, decide_eq_true_eq, decide_true, decide_false, eq_self, not_true_eq_false, not_false_eq_true, jfit0, N_lit, N_add, N_mul, NEG_eq, pl_none, pl_some, rf_some, rf_none, jun_ref, jun_null, ir_ref, ir_null, jr_rf, jun_rf, Option.toList_some, Option.toList_none, List.nil_append, List.cons_append, q.k13, st]
    rw [b246_14]
    simp only [N_lit, N_add]
    exact v1
end LAY
