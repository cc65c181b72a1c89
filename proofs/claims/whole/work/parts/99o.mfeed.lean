/-! THE REFERENCE's CALLS: the tape fed -/
section LAY
variable {μ μ' ν : jM} {S S' : Nat → Prop} {T T' : Nat → Nat → Prop} {M g h t s n w d D i j k x y a b c : Nat} {A B C : GA} {σ : SG}
/-- a byte laid on the tape -/
theorem fd_step {m L k : Nat} {v1 v2 v3 v4 v5 v : Int32} (hq : QS μ M) (h16 : jiv μ M 16 = N L) (hm : m ≤ 5) (hL : L + m ≤ 40) (hk : k < m) (hv : [v1, v2, v3, v4, v5][k]? = some v) : jR d 164 67 [.ref M, .int (N m), .int v1, .int v2, .int v3, .int v4, .int v5, .int (N k)] [] μ = jR d 164 67 [.ref M, .int (N m), .int v1, .int v2, .int v3, .int v4, .int v5, .int (N (k + 1))] [] (jsetI μ (M + 399) (L + k) v) := by
  have k13 := hq.k13
  have q15 : jrv μ M 15 = some (M + 399) := hq.2.1 15 399 rfl
  have k99 : jk μ (M + 399) = 20 ∧ jl μ (M + 399) = 40 := hq.kd (o := 399) (by decide) rfl
  have e1 := ent_set (μ := μ) (i := L + k) (v := v) k99.1 k99.2 (by omega) (by decide)
  have go : jR d 164 127 [.ref M, .int (N m), .int v1, .int v2, .int v3, .int v4, .int v5, .int (N k)] [.int v, .int (N L + N k), .ref (M + 399)] μ = jR d 164 67 [.ref M, .int (N m), .int v1, .int v2, .int v3, .int v4, .int v5, .int (N (k + 1))] [] (jsetI μ (M + 399) (L + k) v) := by
    rw [b164_127 (hs0 := ir_ref), N_add, e1, show (1 : Int32) = N 1 from rfl, N_add]
    rfl
  rw [b164_67, if_pos (by rw [N_lt (by omega) (by omega)]; exact hk)]
  simp only [gI13, gR13, pI13, pR13, rv13, k13, q15, if_true, Option.bind_some, rf_some, h16]
  rcases (show k = 0 ∨ k = 1 ∨ k = 2 ∨ k = 3 ∨ k = 4 by omega) with rfl | rfl | rfl | rfl | rfl
  · cases hv; rw [if_pos (by decide)]; exact go
  · cases hv; rw [if_neg (by decide), if_pos (by decide)]; exact go
  · cases hv; rw [if_neg (by decide), if_neg (by decide), if_pos (by decide)]; exact go
  · cases hv; rw [if_neg (by decide), if_neg (by decide), if_neg (by decide), if_pos (by decide)]; exact go
  · cases hv; rw [if_neg (by decide), if_neg (by decide), if_neg (by decide), if_neg (by decide)]; exact go
end LAY
