/-! THE REFERENCE's CALLS: rows dropped -/
/-- only the reference's cells changed -/
def FR (M : Nat) (μ μ' : jM) : Prop := Fx (fun a => M ≤ a ∧ a < M + 424) (fun a _ => M ≤ a ∧ a < M + 424) μ μ'
/-- a call of the reference -/
def ROP (M : Nat) (run : Option (Option Value × jM)) (μ : jM) (r : RES) : Prop := ∃ μ', run = some (some (.int r.1), μ') ∧ FR M μ μ' ∧ MR μ' M r.2
section LAY
variable {μ μ' μ'' ν : jM} {S S' : Nat → Prop} {T T' : Nat → Nat → Prop} {M g h t s n w d D i j k x y a b c : Nat} {A B C : GA} {σ : SG}
theorem FR.refl : FR M μ μ := Fx.refl
theorem FR.trans (a : FR M μ μ') (b : FR M μ' μ'') : FR M μ μ'' := Fx.trans a b
theorem FU.fr (F : FU M μ μ') : FR M μ μ' := F.1.mono (fun a k => by unfold SU at k; omega) (fun a j k => by unfold TU at k; omega)
theorem FM1.fr (F : FM1 M g μ μ') (hg : g < 4) : FR M μ μ' := F.1.mono (fun a k => by
  have k : a = M + 1 ∨ SMg M g a := k
  unfold SMg at k; omega) (fun a j k => by
  have k : a = M + 23 + g := k
  omega)
theorem r_btw (x lo hi : Int32) : jC d 165 [.int x, .int lo, .int hi] μ = some (some (.int (if x < lo ∨ hi < x then N 0 else N 1)), μ) := by
  rw [jC_run (by decide)]
  show jR d 165 0 [.int x, .int lo, .int hi] [] μ = _
  have j0 : jrf 4 (N 0) = true := rfl
  have j1 : jrf 4 (N 1) = true := rfl
  rw [b165_0]
  by_cases h0 : x < lo
  · rw [if_pos h0, if_pos (Or.inl h0), b165_14, b165_15]
    exact if_pos j0
  · rw [if_neg h0]
    by_cases h1 : hi < x
    · rw [if_pos h1, if_pos (Or.inr h1), b165_14, b165_15]
      exact if_pos j0
    · rw [if_neg h1, if_neg (fun k => k.elim h0 h1), b165_15]
      exact if_pos j1
/-- a main grid changed -/
theorem MR.grid (h : MR μ M σ) (hg : g < 4) (F : FM1 M g μ μ') (hG : GQ μ' M g) {l : List (RW (Option Nat))} (e : rG μ' (mA M g) = l) (hl : rowsM μ (M + 424) l) : MR μ' M (stg σ g (l.map (rwm (mF μ)))) := by
  obtain ⟨hq, hA, hG0, hr, hu, hi, ht, hc, hm, hs⟩ := h
  have nS : ∀ a, (a = M + 1 ∨ SMg M g a) → M ≤ a ∧ a ≤ M + 22 := fun a k => by unfold SMg at k; omega
  have fd : FD (M + 424) μ μ' := F.1.fd (fun a k => by have := nS a k; omega) (fun a j k => by
    have k : a = M + 23 + g := k
    omega)
  have iv : ∀ a, a = M ∨ M + 23 ≤ a → jiv μ' a = jiv μ a := fun a k => F.1.iv (by
    intro q
    have q : a = M + 1 ∨ SMg M g a := q
    unfold SMg at q; omega)
  have keep : ∀ t k, t < 14 → k < 4 → GW μ (aA M t k) → GW μ' (aA M t k) ∧ rG μ' (aA M t k) = rG μ (aA M t k) := fun t k ht hk hw => aA_keep F.1 (fun a h1 h2 q => by have := nS a q; omega) (fun a j h1 h2 q => by
    have q : a = M + 23 + g := q
    omega) ht hk hw
  refine ⟨F.qs hg hq, fun t ht k hk => (keep t k ht hk (hA t ht k hk)).1, fun k hk => ?_, fun c hc => ?_, hu.keep fd (by rw [iv M (Or.inl rfl)]) keep, hi.keep fd (by rw [iv M (Or.inl rfl)]) (by rw [iv M (Or.inl rfl)]) (iv _ (Or.inr (by omega))) (fun t k _ ht hk hw => keep t k ht hk hw), ?_, ?_, ?_, fun i hi => ?_⟩
  · by_cases ek : k = g
    · subst ek
      obtain ⟨b1, b2⟩ := fd.rowm hl
      refine ⟨⟨hG.2, by rw [e]; exact b1⟩, ?_⟩
      show dM μ' (mA M k) = (if k = k then _ else _)
      rw [if_pos rfl]
      unfold dM
      rw [e, b2]
    · obtain ⟨z1, z2⟩ := hG0 k hk
      obtain ⟨y1, y2⟩ : GW μ' (mA M k) ∧ rG μ' (mA M k) = rG μ (mA M k) := by
        refine F.1.gw z1.gw (fun q => ?_) (fun q => ?_) (fun q => ?_) (fun q => ?_) (F.2 k ek) (fun j q => ?_)
        · have q : M + 3 + k = M + 1 ∨ SMg M g (M + 3 + k) := q
          unfold SMg at q; omega
        · have q : M + 8 + k = M + 1 ∨ SMg M g (M + 8 + k) := q
          unfold SMg at q; omega
        · have q : M + 13 + k = M + 1 ∨ SMg M g (M + 13 + k) := q
          unfold SMg at q; omega
        · have q : M + 18 + k = M + 1 ∨ SMg M g (M + 18 + k) := q
          unfold SMg at q; omega
        · have q : M + 23 + k = M + 23 + g := q
          omega
      obtain ⟨x1, x2⟩ := z1.to fd y1 y2
      refine ⟨x1, ?_⟩
      show dM μ' (mA M k) = (if k = g then _ else σ.1.1 k)
      rw [if_neg ek]
      exact x2.trans z2
  · rw [iv (M + 27) (Or.inr (by omega)), iv (M + 28) (Or.inr (by omega))]; exact hr c hc
  · obtain ⟨b1, b2, b3⟩ := ht
    exact ⟨b1, by rw [iv M (Or.inl rfl)]; exact b2, by rw [iv (M + 399) (Or.inr (by omega))]; exact b3⟩
  · obtain ⟨b1, b2, b3⟩ := hc
    exact ⟨b1, by rw [iv M (Or.inl rfl)]; exact b2, by rw [iv (M + 405) (Or.inr (by omega)), iv (M + 406) (Or.inr (by omega)), iv (M + 407) (Or.inr (by omega)), iv (M + 408) (Or.inr (by omega))]; exact b3⟩
  · show jiv μ' M 36 = _
    rw [iv M (Or.inl rfl)]; exact hm
  · rw [iv (M + 416) (Or.inr (by omega)), iv (M + 417) (Or.inr (by omega)), iv (M + 419 + i) (Or.inr (by omega))]
    exact hs i hi
/-- what a main grid is -/
theorem MR.gq (h : MR μ M σ) (hg : g < 4) : GQ μ M g ∧ σ.1.1 g = (rG μ (mA M g)).map (rwm (mF μ)) ∧ rowsM μ (M + 424) (rG μ (mA M g)) ∧ (σ.1.1 g).length = vN μ (mA M g) ∧ vN μ (mA M g) ≤ 8 := by
  obtain ⟨z1, z2⟩ := h.2.2.1 g hg
  exact ⟨⟨hg, z1.1⟩, z2.symm, z1.2, by rw [← z2]; exact len_dM, z1.1.2.1⟩
theorem p_drop (h : MR μ M σ) (g r : Int32) : ROP M (jC (d + 3) 199 [.ref M, .int g, .int r] μ) μ (o_drop σ g r) := by
  have hq := h.1
  have bad : jR (d + 3) 199 23 [.ref M, .int g, .int r, .retAddr 0] [] μ = some (some (.int aBAD), μ) := b199_23 ..
  have st : jC (d + 3) 199 [.ref M, .int g, .int r] μ = jR (d + 3) 199 4 [.ref M, .int g, .int r, .retAddr 0] [.int (okI (ix 3 g))] μ := by
    rw [jC_run (by decide)]
    show jR (d + 3) 199 0 [.ref M, .int g, .int r, .retAddr 0] [] μ = _
    rw [b199_0, r_ver]
    rfl
  rw [st, b199_4]
  unfold o_drop rix
  cases eg : ix 3 g with
  | none =>
    rw [if_pos (by rw [okI_0])]
    exact ⟨μ, bad, FR.refl, h⟩
  | some g0 =>
    obtain ⟨rfl, hg⟩ := ix_some (by decide) eg
    have hg4 : g0 < 4 := by omega
    obtain ⟨G1, G2, G3, G4, G5⟩ := h.gq hg4
    have ro := hq.ro hg4
    rw [G1.2.1] at ro
    rw [if_neg (by rw [okI_0]; simp)]
    simp only [gI13, gR13, pI13, pR13, rv13, hq.k13, hq.f.1, if_true, Option.bind_some, rf_some, ro, G4]
    rw [show (1 : Int32) = N 1 from rfl, show (0 : Int32) = N 0 from rfl, r_in (by omega)]
    show ROP M (jR (d + 3) 199 20 [.ref M, .int (N g0), .int r, .retAddr 0] [.int (okI (ix (vN μ (mA M g0)) r))] μ) μ _
    rw [b199_20]
    cases er : ix (vN μ (mA M g0)) r with
    | none =>
      rw [if_pos (by rw [okI_0])]
      exact ⟨μ, bad, FR.refl, h⟩
    | some r0 =>
      obtain ⟨rfl, hr⟩ := ix_some (by omega) er
      obtain ⟨μ1, c1, F1, h1⟩ := h.chg (d := d)
      obtain ⟨H1, H2, H3, H4, H5⟩ := h1.gq hg4
      have hv1 : vN μ1 (mA M g0) = vN μ (mA M g0) := by rw [← H4, ← G4]; rfl
      obtain ⟨μ2, c2, F2, H6, e2⟩ := r_closes (d := d) h1.1 H1 (show r0 < vN μ1 (mA M g0) by omega)
      have h2 := h1.grid hg4 F2 H6 e2 (fun w hw => H3 w (List.mem_of_mem_eraseIdx hw))
      have key := ent_get (μ := μ1) (i := r0) (h1.1.gk hg4).1.1 (h1.1.gk hg4).1.2 (by omega) (by decide)
      have ek : jiv μ1 (M + 3 + g0) r0 = keyO (σ.1.1 g0) r0 := by
        have : (chg σ).1.1 g0 = σ.1.1 g0 := rfl
        rw [← this, H2]
        unfold keyO
        rw [List.getElem?_map, show (rG μ1 (mA M g0))[r0]? = some (rowAt μ1 (mA M g0) r0) from RWN_get (show r0 < vN μ1 (mA M g0) by omega)]
        rfl
      rw [if_neg (by rw [okI_0]; simp)]
      simp only [gI13, gR13, pI13, pR13, rv13, Option.bind_some, Option.bind_none, if_true, if_false, true_or, or_true, false_or, or_false, true_and, and_true, false_and, and_false, decide_eq_true_eq, decide_true, decide_false, eq_self, not_true_eq_false, not_false_eq_true, jfit0, N_lit, N_add, N_mul, NEG_eq, pl_none, pl_some, rf_some, rf_none, jun_ref, jun_null, ir_ref, ir_null, jr_rf, jun_rf, Option.toList_some, Option.toList_none, List.nil_append, List.cons_append, hq.k13, c1]
      rw [b199_30]
      simp only [gI13, gR13, pI13, pR13, rv13, Option.bind_some, Option.bind_none, if_true, if_false, true_or, or_true, false_or, or_false, true_and, and_true, false_and, and_false, decide_eq_true_eq, decide_true, decide_false, eq_self, not_true_eq_false, not_false_eq_true, jfit0, N_lit, N_add, N_mul, NEG_eq, pl_none, pl_some, rf_some, rf_none, jun_ref, jun_null, ir_ref, ir_null, jr_rf, jun_rf, Option.toList_some, Option.toList_none, List.nil_append, List.cons_append, h1.1.k13, h1.1.f.2.1, (h1.1.gr hg4).1, key, c2]
      rw [b199_45]
      refine ⟨μ2, by rw [ek]; rfl, F1.fr.trans (F2.fr hg4), ?_⟩
      rw [map_eraseIdx, ← H2] at h2
      exact h2
end LAY
