/-! THE REFERENCE's CALLS: sheets -/
section LAY
variable {μ μ' ν : jM} {S S' : Nat → Prop} {T T' : Nat → Nat → Prop} {M g h t s n w d D i j k x y a b c : Nat} {A B C : GA} {σ : SG}
/-- a sheet's fields -/
theorem QS.sh (h : QS μ M) (hs : s < 4) : jrv μ M 52 = some (M + 416) ∧ jrv μ M 53 = some (M + 417) ∧ jrv μ M 54 = some (M + 418) ∧ jrv μ M 55 = some (M + 423) ∧ jaI μ (.ref (M + 416)) (N s) = some (jiv μ (M + 416) s) ∧ jaI μ (.ref (M + 417)) (N s) = some (jiv μ (M + 417) s) ∧ jaR μ (.ref (M + 418)) (N s) = some (.ref (M + 419 + s)) ∧ jk μ (M + 419 + s) = 20 ∧ jl μ (M + 419 + s) = 40 := by
  have k6 : jk μ (M + 416) = 20 ∧ jl μ (M + 416) = 4 := h.kd (o := 416) (by decide) rfl
  have k7 : jk μ (M + 417) = 20 ∧ jl μ (M + 417) = 4 := h.kd (o := 417) (by decide) rfl
  exact ⟨h.2.1 52 416 rfl, h.2.1 53 417 rfl, h.2.1 54 418 rfl, h.2.1 55 423 rfl, ent_get k6.1 k6.2 hs (by decide), ent_get k7.1 k7.2 hs (by decide), (h.gr hs).2.2.2.2.2, (h.gk hs).2.2.2.2.2.1, (h.gk hs).2.2.2.2.2.2⟩
theorem p_put (h : MR μ M σ) (hw : ∀ x, x < 4 → (σ.2.2.2.2.2 x).1 = NEG ∨ (σ.2.2.2.2.2 x).1 = N 0 ∨ (σ.2.2.2.2.2 x).1 = N 1) (s i v : Int32) : ROP M (jC (d + 2) 263 [.ref M, .int s, .int i, .int v] μ) μ (o_put σ s i v) := by
  obtain ⟨hq, hA, hg, hr, hu, hi, ht, hc, hm, hs⟩ := id h
  have k13 := hq.k13
  have st : jC (d + 2) 263 [.ref M, .int s, .int i, .int v] μ = jR (d + 2) 263 4 [.ref M, .int s, .int i, .int v] [.int (okI (ix 4 s))] μ := by
    rw [jC_run (by decide)]
    show jR (d + 2) 263 0 [.ref M, .int s, .int i, .int v] [] μ = _
    rw [b263_0, r_sort]
    rfl
  rw [st, b263_4]
  unfold o_put
  cases es : ix 4 s with
  | none =>
    rw [if_pos (by rw [okI_0])]
    exact ⟨μ, rfl, FR.refl, h⟩
  | some s0 =>
    obtain ⟨rfl, hs4⟩ := ix_some (by decide) es
    rw [if_neg (by rw [okI_0]; simp)]
    obtain ⟨q52, q53, q54, q55, g1, g2, g3, k19, l19⟩ := hq.sh hs4
    obtain ⟨v1, v2, v3, v4⟩ := hs s0 hs4
    have hw0 := hw s0 hs4
    rw [v1] at g1
    rw [v3] at g2
    simp only [gI13, gR13, pI13, pR13, rv13, k13, q52, q53, if_true, Option.bind_some, rf_some, g1, g2]
    show ROP M _ μ (if (σ.2.2.2.2.2 s0).1 = NEG then (aGONE, σ) else match ix (σ.2.2.2.2.2 s0).2.length i with
      | none => (aOUT, σ)
      | some i => (N 1, ssh σ s0 ((σ.2.2.2.2.2 s0).1, (σ.2.2.2.2.2 s0).2.set i (shv (σ.2.2.2.2.2 s0).1 v))))
    by_cases eN : (σ.2.2.2.2.2 s0).1 = NEG
    · rw [if_pos eN, if_pos (by rw [eN]; decide)]
      exact ⟨μ, rfl, FR.refl, h⟩
    · have hw1 : (σ.2.2.2.2.2 s0).1 = N 0 ∨ (σ.2.2.2.2.2 s0).1 = N 1 := hw0.resolve_left eN
      rw [if_neg eN, if_neg (by rcases hw1 with e | e <;> rw [e] <;> decide)]
      rw [show (1 : Int32) = N 1 from rfl, show (0 : Int32) = N 0 from rfl, r_in (by omega)]
      show ROP M (jR (d + 2) 263 35 [.ref M, .int (N s0), .int i, .int v] [.int (okI (ix (σ.2.2.2.2.2 s0).2.length i))] μ) μ _
      rw [b263_35]
      cases ei : ix (σ.2.2.2.2.2 s0).2.length i with
      | none =>
        rw [if_pos (by rw [okI_0])]
        exact ⟨μ, rfl, FR.refl, h⟩
      | some i0 =>
        obtain ⟨rfl, hil⟩ := ix_some (by omega) ei
        rw [if_neg (by rw [okI_0]; simp)]
        have e1 := ent_set (μ := μ) (i := i0) (v := shv (σ.2.2.2.2.2 s0).1 v) k19 l19 (by omega) (by decide)
        have fin : ∀ v', jsI μ (.ref (M + 419 + s0)) (N i0) v' = some (jsetI μ (M + 419 + s0) i0 v') → jR (d + 2) 263 63 [.ref M, .int (N s0), .int (N i0), .int v] [.int v', .int (N i0), .ref (M + 419 + s0)] μ = some (some (.int (N 1)), jsetI μ (M + 419 + s0) i0 v') := fun v' he => by
          rw [b263_63 (hs0 := ir_ref), he]; rfl
        have F : Fx (fun a => a = M + 419 + s0) (fun _ _ => False) μ (jsetI μ (M + 419 + s0) i0 (shv (σ.2.2.2.2.2 s0).1 v)) := Fx.setI Fx.refl rfl
        have hf : MRs (jsetI μ (M + 419 + s0) i0 (shv (σ.2.2.2.2.2 s0).1 v)) M (updf σ.2.2.2.2.2 s0 ((σ.2.2.2.2.2 s0).1, (σ.2.2.2.2.2 s0).2.set i0 (shv (σ.2.2.2.2.2 s0).1 v))) := by
          intro x hx
          obtain ⟨w1, w2, w3, w4⟩ := hs x hx
          have n : ∀ a, a ≠ M + 419 + s0 → jiv (jsetI μ (M + 419 + s0) i0 (shv (σ.2.2.2.2.2 s0).1 v)) a = jiv μ a := fun a ha => iv_setIn ha
          unfold updf
          rw [n (M + 416) (by omega), n (M + 417) (by omega)]
          by_cases ex : x = s0
          · subst ex
            rw [if_pos rfl]
            refine ⟨w1, by rw [List.length_set]; exact w2, by rw [List.length_set]; exact w3, fun j u hj => ?_⟩
            have hj : ((σ.2.2.2.2.2 x).2.set i0 (shv (σ.2.2.2.2.2 x).1 v))[j]? = some u := hj
            rw [List.getElem?_set] at hj
            show (if M + 419 + x = M + 419 + x ∧ j = i0 then shv (σ.2.2.2.2.2 x).1 v else jiv μ (M + 419 + x) j) = u
            by_cases ej : i0 = j
            · subst ej
              rw [if_pos rfl, if_pos hil] at hj
              rw [if_pos ⟨rfl, rfl⟩]
              exact Option.some.inj hj
            · rw [if_neg ej] at hj
              rw [if_neg (fun q => ej q.2.symm)]
              exact w4 j u hj
          · rw [if_neg ex, n (M + 419 + x) (by omega)]
            exact ⟨w1, w2, w3, w4⟩
        obtain ⟨z1, z2⟩ := h.sheets F (fun a k => by omega) hf
        simp only [gI13, gR13, pI13, pR13, rv13, k13, q52, q54, if_true, Option.bind_some, rf_some, g1, g3]
        unfold shv at e1 z1 z2 ⊢
        by_cases e0 : (σ.2.2.2.2.2 s0).1 = N 0
        · rw [if_pos e0] at e1 z1 z2
          rw [if_pos (show (σ.2.2.2.2.2 s0).1 = 0 from e0)]
          rw [if_pos e0]
          exact ⟨_, fin _ e1, z1, z2⟩
        · rw [if_neg e0] at e1 z1 z2
          rw [if_neg (show ¬ (σ.2.2.2.2.2 s0).1 = 0 from e0)]
          rw [if_neg e0]
          exact ⟨_, fin _ e1, z1, z2⟩
end LAY
