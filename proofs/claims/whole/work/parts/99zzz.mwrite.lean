/-! THE REFERENCE's CALLS: write -/
section LAY
variable {μ μ' ν : jM} {M g n w d i j a t c f p m v b B L : Nat} {bs : List Nat} {T : List (Int32 × Int32)} {ts : List T3} {σ : SG} {G : DG} {x : Int32 × Int32} {e : Ex} {ky : Nat → Nat}
theorem pTx_can (hky : ∀ v, ky v < 100) (hL : GTS ts) (h1 : (pTx ky ts).1 = true) (h2 : (pTx ky ts).2.2.1 = 2) : ecan (pTx ky ts).2.2.2.2 = (pTx ky ts).2.2.2.2 := by
  unfold pTx at h1 h2 ⊢
  by_cases e0 : hk ts = 0
  · rw [if_pos e0]; rfl
  · rw [if_neg e0] at h1 h2 ⊢
    by_cases e61 : hk ts = 61
    · rw [if_pos e61] at h1 ⊢
      have h1 : ((pP ky 200 2 0 (.natCast 0) ts.tail).1 && decide (hk (pP ky 200 2 0 (.natCast 0) ts.tail).2.1 = 0)) = true := h1
      rw [Bool.and_eq_true] at h1
      exact pP_can hky 200 2 0 _ _ (hL.tl e0).1 (by decide) (fun q => absurd q (by decide)) h1.1
    · rw [if_neg e61]
      by_cases e45 : hk ts = 45
      · rw [if_pos e45]
        by_cases e48 : hk ts.tail = 48
        · rw [if_pos e48]; rfl
        · rw [if_neg e48]; rfl
      · rw [if_neg e45]
        by_cases e48 : hk ts = 48
        · rw [if_pos e48]; rfl
        · rw [if_neg e48]; rfl
/-- what was read, in an array of its own -/
theorem x_own (hj : JW μ) (hz : M + 424 ≤ jsz μ) (hq : QS μ M) (hT : ∀ i x, T[i]? = some x → jiv μ (M + 400) (2 * i) = x.1 ∧ jiv μ (M + 400) (2 * i + 1) = x.2) (h40 : T.length ≤ 40) : ∃ μ', (jnA μ 20 (N (2 * T.length)) = some (.ref (jsz μ), jnew μ 20 (2 * T.length) (2 * T.length))) ∧ jcp (jnew μ 20 (2 * T.length) (2 * T.length)) (.ref (M + 400)) (N 0) (.ref (jsz μ)) (N 0) (N (2 * T.length)) = some μ' ∧ Fa (fun _ => False) (fun _ _ => False) 1 80 μ μ' ∧ jk μ' (jsz μ) = 20 ∧ jl μ' (jsz μ) = 2 * T.length ∧ prs2 μ' (jsz μ) = T := by
  have F0 : Fa (fun _ => False) (fun _ _ => False) 1 (2 * T.length) μ (jnew μ 20 (2 * T.length) (2 * T.length)) := Fa.new hj
  have kd := hq.kd (o := 400) (a := M + 400) (by decide) rfl
  have k0 : jk (jnew μ 20 (2 * T.length) (2 * T.length)) (jsz μ) = 20 := nk_e
  have l0 : jl (jnew μ 20 (2 * T.length) (2 * T.length)) (jsz μ) = 2 * T.length := nl_e
  have k4 : jk (jnew μ 20 (2 * T.length) (2 * T.length)) (M + 400) = 20 := by rw [F0.kk (by omega)]; exact kd.1
  have l4 : jl (jnew μ 20 (2 * T.length) (2 * T.length)) (M + 400) = 80 := by rw [F0.ll (by omega)]; exact kd.2
  have i4 : jiv (jnew μ 20 (2 * T.length) (2 * T.length)) (M + 400) = jiv μ (M + 400) := F0.iv (by omega) id
  have cp := cp_N (μ := jnew μ 20 (2 * T.length) (2 * T.length)) (a := M + 400) (b := jsz μ) (sp := 0) (dp := 0) (n0 := 2 * T.length) k4 k0 (by rw [l4]; omega) (by rw [l0]; omega) (by rw [l4]; decide) (by rw [l0]; omega)
  have j0 := F0.jw
  refine ⟨_, ?_, cp, ?_, k0, l0, ?_⟩
  · rw [nA_eq, if_pos ⟨by show N 0 ≤ N (2 * T.length); rw [N_le (by decide) (by omega)]; omega, by show N (2 * T.length) ≤ N 65536; rw [N_le (by omega) (by decide)]; omega⟩, N_nat (by omega)]
  · have G : Fx (fun b => b = jsz μ) (fun _ _ => False) (jnew μ 20 (2 * T.length) (2 * T.length)) (jrowI (jnew μ 20 (2 * T.length) (2 * T.length)) (jsz μ) (va_cpy (jiv (jnew μ 20 (2 * T.length) (2 * T.length)) (M + 400)) (jiv (jnew μ 20 (2 * T.length) (2 * T.length)) (jsz μ)) 0 0 (2 * T.length))) := Fx.rowI Fx.refl rfl
    exact (F0.trans (G.fa j0) (fun b hb g => by have g : b = jsz μ := g; omega) (fun _ _ _ g => g)).mono (fun _ _ g => g) (fun _ _ _ g => g) (by omega) (by omega)
  · rw [i4]
    have iv : ∀ z, z < 2 * T.length → jiv (jrowI (jnew μ 20 (2 * T.length) (2 * T.length)) (jsz μ) (va_cpy (jiv μ (M + 400)) (jiv (jnew μ 20 (2 * T.length) (2 * T.length)) (jsz μ)) 0 0 (2 * T.length))) (jsz μ) z = jiv μ (M + 400) z := fun z hz => by
      rw [iv_rowIe]
      unfold va_cpy
      rw [if_pos (by omega)]
      exact congrArg _ (by omega)
    unfold prs2
    have l1 : jl (jrowI (jnew μ 20 (2 * T.length) (2 * T.length)) (jsz μ) (va_cpy (jiv μ (M + 400)) (jiv (jnew μ 20 (2 * T.length) (2 * T.length)) (jsz μ)) 0 0 (2 * T.length))) (jsz μ) = 2 * T.length := l0
    rw [l1, show 2 * T.length / 2 = T.length by omega]
    apply List.ext_getElem?
    intro z
    rw [List.getElem?_map]
    by_cases hz : z < T.length
    · obtain ⟨x, hx⟩ : ∃ x, T[z]? = some x := ⟨_, List.getElem?_eq_getElem hz⟩
      obtain ⟨t1, t2⟩ := hT z x hx
      rw [List.getElem?_range hz, hx]
      show some (_, _) = _
      rw [iv _ (by omega), iv _ (by omega), t1, t2]
    · rw [List.getElem?_eq_none (by rw [List.length_range]; omega), List.getElem?_eq_none (by omega)]
      rfl
end LAY
