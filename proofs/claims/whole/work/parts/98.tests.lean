/-! THE REFERENCE: small tests; rows that change places -/
/-- one, if it is there -/
def okI {α : Type} (o : Option α) : Int32 := if o.isSome = true then N 1 else N 0
section LAY
variable {μ μ' ν : jM} {S S' : Nat → Prop} {T T' : Nat → Nat → Prop} {M g h t s n w d D i j k x y a b c : Nat} {A B C : GA}
theorem okI_some {α : Type} {x : α} : okI (some x) = N 1 := rfl
theorem okI_none {α : Type} : okI (none : Option α) = N 0 := rfl
theorem r_in {n : Nat} (hn : n < 2147483648) (x : Int32) : jC d 165 [.int x, .int (N 0), .int (N n - N 1)] μ = some (some (.int (okI (ix n x))), μ) := by
  rw [jC_run (by decide)]
  show jR d 165 0 [.int x, .int (N 0), .int (N n - N 1)] [] μ = _
  have j0 : jrf 4 (N 0) = true := rfl
  have j1 : jrf 4 (N 1) = true := rfl
  rw [b165_0]
  unfold ix
  by_cases h0 : x < N 0
  · rw [if_pos h0, if_pos h0, b165_14, b165_15]
    exact if_pos j0
  · rw [if_neg h0, if_neg h0]
    obtain ⟨a, ha, rfl⟩ := N_of h0
    have e : N n - N 1 < N a ↔ ¬ N a < N n := by
      rw [N_lt ha hn]
      rcases Nat.eq_zero_or_pos n with h | h
      · subst h
        refine ⟨fun _ => by omega, fun _ => ?_⟩
        have h1 : ¬ N a < N 0 := h0
        have : N 0 - N 1 < N 0 := by decide
        have h2 : N 0 ≤ N a := by rw [N_le (by decide) ha]; omega
        exact Int32.lt_of_lt_of_le this h2
      · rw [N_sub h, N_lt (by omega) ha]; omega
    by_cases h1 : N a < N n
    · rw [if_neg (fun g => e.mp g h1), if_pos h1, b165_15]
      exact if_pos j1
    · rw [if_pos (e.mpr h1), if_neg h1, b165_14, b165_15]
      exact if_pos j0
theorem okI_f {α : Type} (o : Option α) : jrf 4 (okI o) = true := by
  have j0 : jrf 4 (N 0) = true := rfl
  have j1 : jrf 4 (N 1) = true := rfl
  cases o with
  | none => exact j0
  | some x => exact j1
theorem okI_0 {α : Type} (o : Option α) : (okI o = 0) = (o = none) := by
  cases o with
  | none => exact eq_true rfl |>.trans (eq_true rfl).symm
  | some x => exact (eq_false (show ¬ (N 1 = N 0) by decide)).trans (eq_false (by simp)).symm
/-- versions -/
theorem r_ver (x : Int32) : jC (d + 1) 168 [.int x] μ = some (some (.int (okI (ix 3 x))), μ) := by
  have := r_in (d := d) (μ := μ) (n := 3) (by decide) x
  rw [jC_run (by decide)]
  show jR (d + 1) 168 0 [.int x] [] μ = _
  rw [b168_0]
  rw [show (jC d 165 [.int x, .int 0, .int 2] μ) = some (some (.int (okI (ix 3 x))), μ) from this]
  show jR (d + 1) 168 6 [.int x] [.int (okI (ix 3 x))] μ = _
  rw [b168_6]
  exact if_pos (okI_f _)
theorem r_col (x : Int32) : jC (d + 1) 171 [.int x] μ = some (some (.int (okI (ix 3 x))), μ) := by
  have := r_in (d := d) (μ := μ) (n := 3) (by decide) x
  rw [jC_run (by decide)]
  show jR (d + 1) 171 0 [.int x] [] μ = _
  rw [b171_0]
  rw [show (jC d 165 [.int x, .int 0, .int 2] μ) = some (some (.int (okI (ix 3 x))), μ) from this]
  show jR (d + 1) 171 6 [.int x] [.int (okI (ix 3 x))] μ = _
  rw [b171_6]
  exact if_pos (okI_f _)
theorem r_grid (x : Int32) : jC (d + 1) 170 [.int x] μ = some (some (.int (okI (ix 4 x))), μ) := by
  have := r_in (d := d) (μ := μ) (n := 4) (by decide) x
  rw [jC_run (by decide)]
  show jR (d + 1) 170 0 [.int x] [] μ = _
  rw [b170_0]
  rw [show (jC d 165 [.int x, .int 0, .int 3] μ) = some (some (.int (okI (ix 4 x))), μ) from this]
  show jR (d + 1) 170 6 [.int x] [.int (okI (ix 4 x))] μ = _
  rw [b170_6]
  exact if_pos (okI_f _)
theorem r_sort (x : Int32) : jC (d + 1) 256 [.int x] μ = some (some (.int (okI (ix 4 x))), μ) := by
  have := r_in (d := d) (μ := μ) (n := 4) (by decide) x
  rw [jC_run (by decide)]
  show jR (d + 1) 256 0 [.int x] [] μ = _
  rw [b256_0]
  rw [show (jC d 165 [.int x, .int 0, .int 3] μ) = some (some (.int (okI (ix 4 x))), μ) from this]
  show jR (d + 1) 256 6 [.int x] [.int (okI (ix 4 x))] μ = _
  rw [b256_6]
  exact if_pos (okI_f _)
theorem r_byte (x : Int32) : jC (d + 1) 166 [.int x] μ = some (some (.int (okI (ix 256 x))), μ) := by
  have := r_in (d := d) (μ := μ) (n := 256) (by decide) x
  rw [jC_run (by decide)]
  show jR (d + 1) 166 0 [.int x] [] μ = _
  rw [b166_0]
  rw [show (jC d 165 [.int x, .int 0, .int 255] μ) = some (some (.int (okI (ix 256 x))), μ) from this]
  show jR (d + 1) 166 8 [.int x] [.int (okI (ix 256 x))] μ = _
  rw [b166_8]
  exact if_pos (okI_f _)
/-- a place of a cell -/
theorem r_cell (hq : QS μ M) (hG : ∀ g, g < 4 → GW μ (mA M g)) (g r c : Int32) : jC (d + 2) 169 [.ref M, .int g, .int r, .int c] μ = some (some (.int (okI ((ix 4 g).bind fun g => (ix (vN μ (mA M g)) r).bind fun r => (ix 3 c).map fun c => (g, r, c)))), μ) := by
  have z0 : ∀ ls : Value × Value × Value × Value, jR (d + 2) 169 34 [ls.1, ls.2.1, ls.2.2.1, ls.2.2.2] [] μ = some (some (.int (N 0)), μ) := fun ls => by
    rw [b169_34, b169_35]
    exact if_pos rfl
  rw [jC_run (by decide)]
  show jR (d + 2) 169 0 [.ref M, .int g, .int r, .int c] [] μ = _
  rw [b169_0, r_grid]
  show jR (d + 2) 169 4 [.ref M, .int g, .int r, .int c] [.int (okI (ix 4 g))] μ = _
  rw [b169_4]
  cases eg : ix 4 g with
  | none =>
    rw [if_pos (by rw [okI_0])]
    exact z0 (.ref M, .int g, .int r, .int c)
  | some g0 =>
    obtain ⟨rfl, hg⟩ := ix_some (by decide) eg
    obtain ⟨a1, a2, a3⟩ := hG g0 hg
    have ro := hq.ro hg
    rw [show jiv μ (M + 1) g0 = N (vN μ (mA M g0)) from a1] at ro
    rw [if_neg (by rw [okI_0]; simp)]
    simp only [gI13, gR13, pI13, pR13, rv13, hq.k13, hq.f.1, if_true, Option.bind_some, rf_some, ro]
    rw [show (1 : Int32) = N 1 from rfl, show (0 : Int32) = N 0 from rfl, r_in (by omega)]
    show jR (d + 2) 169 20 [.ref M, .int (N g0), .int r, .int c] [.int (okI (ix (vN μ (mA M g0)) r))] μ = _
    rw [b169_20]
    cases er : ix (vN μ (mA M g0)) r with
    | none =>
      rw [if_pos (by rw [okI_0])]
      exact z0 (.ref M, .int (N g0), .int r, .int c)
    | some r0 =>
      rw [if_neg (by rw [okI_0]; simp), r_col]
      show jR (d + 2) 169 27 [.ref M, .int (N g0), .int r, .int c] [.int (okI (ix 3 c))] μ = _
      rw [b169_27]
      cases ec : ix 3 c with
      | none =>
        rw [if_pos (by rw [okI_0])]
        exact z0 (.ref M, .int (N g0), .int r, .int c)
      | some c0 =>
        rw [if_neg (by rw [okI_0]; simp), b169_35]
        exact if_pos rfl
end LAY
