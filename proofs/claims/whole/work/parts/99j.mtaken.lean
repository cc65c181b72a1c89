/-! THE REFERENCE's CALLS: which way is taken; clashes told -/
section LAY
variable {μ μ' ν : jM} {S S' : Nat → Prop} {T T' : Nat → Nat → Prop} {M g h t s n w d D i j k x y a b c : Nat} {A B C : GA} {σ : SG}
/-- which ways a rule counts among -/
theorem tkn {k r : Nat} {u4 i1 : Int32} {v4 : Value} (hk : k < 6) (hr : r < 6) (x : Int32) : (if N k = 0 then jR d 223 70 [.ref M, .int x, .int (N k), .int (N r), v4] [] μ else (if N k = N r then jR d 223 70 [.ref M, .int x, .int (N k), .int (N r), v4] [] μ else (if N k = 1 then (if N r = 5 then jR d 223 70 [.ref M, .int x, .int (N k), .int (N r), v4] [] μ else jR d 223 45 [.ref M, .int x, .int (N k), .int (N r), v4] [] μ) else jR d 223 45 [.ref M, .int x, .int (N k), .int (N r), v4] [] μ))) = jR d 223 75 [.ref M, .int x, .int (N k), .int (N r), v4] [.int (if isOfB r k = true then N 1 else N 0)] μ := by
  rcases (show k = 0 ∨ k = 1 ∨ k = 2 ∨ k = 3 ∨ k = 4 ∨ k = 5 by omega) with rfl | rfl | rfl | rfl | rfl | rfl <;> rcases (show r = 0 ∨ r = 1 ∨ r = 2 ∨ r = 3 ∨ r = 4 ∨ r = 5 by omega) with rfl | rfl | rfl | rfl | rfl | rfl
  all_goals (repeat first | rw [if_pos (by decide)] | rw [if_neg (by decide)] | rw [b223_45] | rw [b223_60] | rw [b223_70] | rw [b223_74])
  all_goals rfl
theorem p_taken (h : MR μ M σ) (hr6 : ∀ c, c < 3 → (σ.1.2.1 c).1 < 6) (c k : Int32) : ROP M (jC (d + 2) 223 [.ref M, .int c, .int k] μ) μ (o_taken σ c k) := by
  have hq := h.1
  obtain ⟨q6, q7, k27, k28⟩ := hq.fr
  have bad : jR (d + 2) 223 16 [.ref M, .int c, .int k, .retAddr 0, .retAddr 0] [] μ = some (some (.int aBAD), μ) := b223_16 ..
  have st : jC (d + 2) 223 [.ref M, .int c, .int k] μ = jR (d + 2) 223 4 [.ref M, .int c, .int k, .retAddr 0, .retAddr 0] [.int (okI (ix 3 c))] μ := by
    rw [jC_run (by decide)]
    show jR (d + 2) 223 0 [.ref M, .int c, .int k, .retAddr 0, .retAddr 0] [] μ = _
    rw [b223_0, r_col]
    rfl
  rw [st, b223_4]
  unfold o_taken
  cases ec : ix 3 c with
  | none =>
    rw [if_pos (by rw [okI_0])]
    exact ⟨μ, bad, FR.refl, h⟩
  | some c0 =>
    obtain ⟨rfl, hc⟩ := ix_some (by decide) ec
    rw [if_neg (by rw [okI_0]; simp), r_b5]
    show ROP M (jR (d + 2) 223 13 [.ref M, .int (N c0), .int k, .retAddr 0, .retAddr 0] [.int (okI (ix 6 k))] μ) μ _
    rw [b223_13]
    cases ek : ix 6 k with
    | none =>
      rw [if_pos (by rw [okI_0])]
      exact ⟨μ, bad, FR.refl, h⟩
    | some k0 =>
      obtain ⟨rfl, hk⟩ := ix_some (by decide) ek
      rw [if_neg (by rw [okI_0]; simp)]
      obtain ⟨a1, a2⟩ := h.2.2.2.1 c0 hc
      have e1 := ent_get (μ := μ) k27.1 k27.2 hc (by decide)
      have e2 := ent_get (μ := μ) k28.1 k28.2 hc (by decide)
      rw [a1] at e1
      rw [a2] at e2
      simp only [gI13, gR13, pI13, pR13, rv13, hq.k13, q6, if_true, Option.bind_some, rf_some, e1]
      rw [tkn (u4 := 0) (i1 := 0) hk (hr6 c0 hc), b223_75]
      show ROP M _ μ (if isOfB (σ.1.2.1 c0).1 k0 = true then N (σ.1.2.1 c0).2 else aSORT, σ)
      by_cases e : isOfB (σ.1.2.1 c0).1 k0 = true
      · rw [if_pos e, if_pos e, if_neg (by decide)]
        simp only [gI13, gR13, pI13, pR13, rv13, hq.k13, q7, if_true, Option.bind_some, rf_some, e2]
        rw [b223_93]
        exact ⟨μ, rfl, FR.refl, h⟩
      · rw [if_neg e, if_neg e, if_pos (by decide), b223_93]
        exact ⟨μ, rfl, FR.refl, h⟩
end LAY
