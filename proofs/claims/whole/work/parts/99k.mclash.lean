/-! THE REFERENCE's CALLS: clashes told; sheets put into -/
section LAY
variable {μ μ' ν : jM} {S S' : Nat → Prop} {T T' : Nat → Nat → Prop} {M g h t s n w d D i j k x y a b c : Nat} {A B C : GA} {σ : SG}
theorem p_clash (h : MR μ M σ) (hw : ∀ c ∈ σ.2.2.2.1, c.2.2.2 = N 0 ∨ c.2.2.2 = N 1) (i w : Int32) : ROP M (jC (d + 2) 241 [.ref M, .int i, .int w] μ) μ (o_clash σ i w) := by
  obtain ⟨hq, hA, hg, hr, hu, hi, ht, ⟨h80, h35, hv⟩, hm, hs⟩ := id h
  have k13 := hq.k13
  have st : jC (d + 2) 241 [.ref M, .int i, .int w] μ = jR (d + 2) 241 6 [.ref M, .int i, .int w] [.int (if w < N 0 ∨ N 3 < w then N 0 else N 1)] μ := by
    rw [jC_run (by decide)]
    show jR (d + 2) 241 0 [.ref M, .int i, .int w] [] μ = _
    rw [b241_0, r_btw]
    rfl
  rw [st, b241_6]
  unfold o_clash
  by_cases ew : w < N 0 ∨ N 3 < w
  · rw [if_pos ew, if_pos ew, if_pos (by decide)]
    exact ⟨μ, rfl, FR.refl, h⟩
  · rw [if_neg ew, if_neg ew, if_neg (by decide)]
    simp only [gI13, gR13, pI13, pR13, rv13, k13, if_true, Option.bind_some, h35]
    rw [show (1 : Int32) = N 1 from rfl, show (0 : Int32) = N 0 from rfl, r_in (by omega)]
    show ROP M (jR (d + 2) 241 23 [.ref M, .int i, .int w] [.int (okI (ix σ.2.2.2.1.length i))] μ) μ _
    rw [b241_23]
    cases ei : ix σ.2.2.2.1.length i with
    | none =>
      rw [if_pos (by rw [okI_0])]
      exact ⟨μ, rfl, FR.refl, h⟩
    | some i0 =>
      obtain ⟨rfl, hil⟩ := ix_some (by omega) ei
      rw [if_neg (by rw [okI_0]; simp)]
      have ec : σ.2.2.2.1[i0]? = some σ.2.2.2.1[i0] := List.getElem?_eq_getElem hil
      show ROP M _ μ (match σ.2.2.2.1[i0]? with
        | none => (aOUT, σ)
        | some c => (if w = N 0 then c.1 else if w = N 1 then c.2.1 else if w = N 2 then c.2.2.1 else c.2.2.2, σ))
      rw [ec]
      obtain ⟨v1, v2, v3, v4⟩ := hv i0 _ ec
      have hw1 := hw _ (List.mem_of_getElem? ec)
      generalize σ.2.2.2.1[i0] = c at *
      have q37 : jrv μ M 37 = some (M + 405) := hq.2.1 37 405 rfl
      have q38 : jrv μ M 38 = some (M + 406) := hq.2.1 38 406 rfl
      have q39 : jrv μ M 39 = some (M + 407) := hq.2.1 39 407 rfl
      have q40 : jrv μ M 40 = some (M + 408) := hq.2.1 40 408 rfl
      have k5 : jk μ (M + 405) = 20 ∧ jl μ (M + 405) = 80 := hq.kd (o := 405) (by decide) rfl
      have k6 : jk μ (M + 406) = 20 ∧ jl μ (M + 406) = 80 := hq.kd (o := 406) (by decide) rfl
      have k7 : jk μ (M + 407) = 20 ∧ jl μ (M + 407) = 80 := hq.kd (o := 407) (by decide) rfl
      have k8 : jk μ (M + 408) = 21 ∧ jl μ (M + 408) = 80 := hq.kd (o := 408) (by decide) rfl
      have g1 := ent_get (μ := μ) (i := i0) k5.1 k5.2 (by omega) (by decide)
      have g2 := ent_get (μ := μ) (i := i0) k6.1 k6.2 (by omega) (by decide)
      have g3 := ent_get (μ := μ) (i := i0) k7.1 k7.2 (by omega) (by decide)
      rw [v1] at g1
      rw [v2] at g2
      rw [v3] at g3
      have g4 : jaB μ (.ref (M + 408)) (N i0) = some c.2.2.2 := by
        rw [aB_eq, if_pos ⟨Or.inl k8.1, by rw [jinb_N (by omega), k8.2]; exact decide_eq_true (by omega)⟩, N_nat (by omega), v4]
      have fin : ∀ v : Int32, jR (d + 2) 241 84 [.ref M, .int (N i0), .int w] [.int v] μ = some (some (.int v), μ) := fun v => b241_84 ..
      show ROP M _ μ (if w = N 0 then c.1 else if w = N 1 then c.2.1 else if w = N 2 then c.2.2.1 else c.2.2.2, σ)
      by_cases e0 : w = N 0
      · rw [if_pos e0, if_pos (show w = 0 from e0)]
        simp only [gI13, gR13, pI13, pR13, rv13, k13, q37, if_true, Option.bind_some, rf_some, g1, fin]
        exact ⟨μ, rfl, FR.refl, h⟩
      · rw [if_neg e0, if_neg (show ¬ w = 0 from e0)]
        by_cases e1 : w = N 1
        · rw [if_pos e1, if_pos (show w = 1 from e1)]
          simp only [gI13, gR13, pI13, pR13, rv13, k13, q38, if_true, Option.bind_some, rf_some, g2, fin]
          exact ⟨μ, rfl, FR.refl, h⟩
        · rw [if_neg e1, if_neg (show ¬ w = 1 from e1)]
          by_cases e2 : w = N 2
          · rw [if_pos e2, if_pos (show w = 2 from e2)]
            simp only [gI13, gR13, pI13, pR13, rv13, k13, q39, if_true, Option.bind_some, rf_some, g3, fin]
            exact ⟨μ, rfl, FR.refl, h⟩
          · rw [if_neg e2, if_neg (show ¬ w = 2 from e2)]
            simp only [gI13, gR13, pI13, pR13, rv13, k13, q40, if_true, Option.bind_some, rf_some, g4]
            rcases hw1 with e | e
            · rw [e, if_pos (show N 0 = 0 from rfl)]
              exact ⟨μ, fin 0, FR.refl, h⟩
            · rw [e, if_neg (show ¬ N 1 = 0 by decide)]
              exact ⟨μ, fin 1, FR.refl, h⟩
/-- a sheet's changes leave all else -/
theorem MR.sheets (h : MR μ M σ) (F : Fx S (fun _ _ => False) μ μ') (hS : ∀ a, S a → M + 416 ≤ a ∧ a < M + 424) {f : Nat → Int32 × List Int32} (hf : MRs μ' M f) : FR M μ μ' ∧ MR μ' M (σ.1, σ.2.1, σ.2.2.1, σ.2.2.2.1, σ.2.2.2.2.1, f) := by
  have iv : ∀ a, ¬ (M + 416 ≤ a ∧ a < M + 424) → jiv μ' a = jiv μ a := fun a k => F.iv (fun q => k (hS a q))
  have iM := iv M (by omega)
  obtain ⟨l1, l2, l3, l4, l5⟩ := h.low F (fun a k => by have := hS a k; omega) (by rw [iM]) (by rw [iM]) (by rw [iM])
  obtain ⟨-, -, -, hr, -, -, ht, hcl, hm, hs⟩ := h
  refine ⟨F.mono (fun a k => by have := hS a k; omega) (fun a j k => k.elim), l1, l2, l3, fun x hx => ?_, l4, l5, ?_, ?_, ?_, hf⟩
  · rw [iv (M + 27) (by omega), iv (M + 28) (by omega)]; exact hr x hx
  · obtain ⟨b1, b2, b3⟩ := ht
    exact ⟨b1, by rw [iM]; exact b2, by rw [iv (M + 399) (by omega)]; exact b3⟩
  · obtain ⟨b1, b2, b3⟩ := hcl
    exact ⟨b1, by rw [iM]; exact b2, by rw [iv (M + 405) (by omega), iv (M + 406) (by omega), iv (M + 407) (by omega), iv (M + 408) (by omega)]; exact b3⟩
  · show jiv _ M 36 = _
    rw [iM]; exact hm
end LAY
