/-! THE LAW: its loop, laid by program (genlaw2.py) -/
section LAW
variable {μ μ' μ1 μ2 : jM} {X S n i k w d : Nat} {f : Nat → Int32} {σ σ' : SG}
theorem lw_7 (hn : n ≤ 3584) (hi : i < 1000000) : (N n - 7 < N i) = (n < i + 7) := by
  show (N n - N 7 < N i) = _
  rw [Int32.lt_iff_toInt_lt, N_subI (by omega) (by decide), N_toInt (by omega)]
  exact propext ⟨fun h => by omega, fun h => by omega⟩
theorem law_step (h : LWS μ X S n f σ) (hi : i + 7 ≤ n) : ∃ μ' σ', jR (d + 460) 10 18 [.ref S, .ref X, .ref (X + 342), .int (N i)] [] μ = jR (d + 460) 10 18 [.ref S, .ref X, .ref (X + 342), .int (N (i + 7))] [] μ' ∧ LWS μ' X S n f σ' ∧ Gw 404 10500 μ μ' := by
  have s1 := h.2.2.2.2
  have n35 := s1.2.2.2.1
  have go : ∀ p0, (∃ μ' σ', jR (d + 460) 10 p0 [.ref S, .ref X, .ref (X + 342), .int (N i)] [] μ = jR (d + 460) 10 1254 [.ref S, .ref X, .ref (X + 342), .int (N i)] [] μ' ∧ LWS μ' X S n f σ' ∧ Gw 404 10500 μ μ') → ∃ μ' σ', jR (d + 460) 10 p0 [.ref S, .ref X, .ref (X + 342), .int (N i)] [] μ = jR (d + 460) 10 18 [.ref S, .ref X, .ref (X + 342), .int (N (i + 7))] [] μ' ∧ LWS μ' X S n f σ' ∧ Gw 404 10500 μ μ' := fun p0 q => by
    obtain ⟨μ', σ', q1, q2⟩ := q
    refine ⟨μ', σ', ?_, q2⟩
    rw [q1, b10_1254 (h0 := ir_ref), show N i + 7 = N (i + 7) by rw [show (7 : Int32) = N 7 from rfl, N_add]]
  rw [b10_18 (h0 := ir_ref)]
  simp only [s1.al, s1.at0 (show i < n by omega), Option.bind_some]
  rw [if_neg (by rw [lw_7 n35 (by omega)]; omega)]
  by_cases q0 : f i &&& 31 = 0
  · rw [if_pos q0]
    exact go 164 (law_feed (d := d) h hi)
  rw [if_neg q0]
  by_cases q1 : f i &&& 31 = 1
  · rw [if_pos q1]
    exact go 239 (law_write (d := d) h hi)
  rw [if_neg q1]
  by_cases q2 : f i &&& 31 = 2
  · rw [if_pos q2]
    exact go 282 (law_row (d := d) h hi)
  rw [if_neg q2]
  by_cases q3 : f i &&& 31 = 3
  · rw [if_pos q3]
    exact go 325 (law_drop (d := d) h hi)
  rw [if_neg q3]
  by_cases q4 : f i &&& 31 = 4
  · rw [if_pos q4]
    exact go 358 (law_move (d := d) h hi)
  rw [if_neg q4]
  by_cases q5 : f i &&& 31 = 5
  · rw [if_pos q5]
    exact go 401 (law_note (d := d) h hi)
  rw [if_neg q5]
  by_cases q6 : f i &&& 31 = 6
  · rw [if_pos q6]
    exact go 454 (law_fill (d := d) h hi)
  rw [if_neg q6]
  by_cases q7 : f i &&& 31 = 7
  · rw [if_pos q7]
    exact go 507 (law_like (d := d) h hi)
  rw [if_neg q7]
  by_cases q8 : f i &&& 31 = 8
  · rw [if_pos q8]
    exact go 540 (law_told (d := d) h hi)
  rw [if_neg q8]
  by_cases q9 : f i &&& 31 = 9
  · rw [if_pos q9]
    exact go 593 (law_value (d := d) h hi)
  rw [if_neg q9]
  by_cases q10 : f i &&& 31 = 10
  · rw [if_pos q10]
    exact go 637 (law_print (d := d) h hi)
  rw [if_neg q10]
  by_cases q11 : f i &&& 31 = 11
  · rw [if_pos q11]
    exact go 690 (law_rule (d := d) h hi)
  rw [if_neg q11]
  by_cases q12 : f i &&& 31 = 12
  · rw [if_pos q12]
    exact go 733 (law_taken (d := d) h hi)
  rw [if_neg q12]
  by_cases q13 : f i &&& 31 = 13
  · rw [if_pos q13]
    exact go 766 (law_merge (d := d) h hi)
  rw [if_neg q13]
  by_cases q14 : f i &&& 31 = 14
  · rw [if_pos q14]
    exact go 779 (law_clash (d := d) h hi)
  rw [if_neg q14]
  by_cases q15 : f i &&& 31 = 15
  · rw [if_pos q15]
    exact go 812 (law_settle (d := d) h hi)
  rw [if_neg q15]
  by_cases q16 : f i &&& 31 = 16
  · rw [if_pos q16]
    exact go 845 (law_take (d := d) h hi)
  rw [if_neg q16]
  by_cases q17 : f i &&& 31 = 17
  · rw [if_pos q17]
    exact go 858 (law_undo (d := d) h hi)
  rw [if_neg q17]
  by_cases q18 : f i &&& 31 = 18
  · rw [if_pos q18]
    exact go 871 (law_exch (d := d) h hi)
  rw [if_neg q18]
  by_cases q19 : f i &&& 31 = 19
  · rw [if_pos q19]
    exact go 884 (law_drawn (d := d) h hi)
  rw [if_neg q19]
  by_cases q20 : f i &&& 31 = 20
  · rw [if_pos q20]
    exact go 917 (law_chance (d := d) h hi)
  rw [if_neg q20]
  by_cases q21 : f i &&& 31 = 21
  · rw [if_pos q21]
    exact go 960 (law_tells (d := d) h hi)
  rw [if_neg q21]
  by_cases q22 : f i &&& 31 = 22
  · rw [if_pos q22]
    exact go 1013 (law_film (d := d) h hi)
  rw [if_neg q22]
  by_cases q23 : f i &&& 31 = 23
  · rw [if_pos q23]
    exact go 1056 (law_image (d := d) h hi)
  rw [if_neg q23]
  by_cases q24 : f i &&& 31 = 24
  · rw [if_pos q24]
    exact go 1069 (law_back (d := d) h hi)
  rw [if_neg q24]
  by_cases q25 : f i &&& 31 = 25
  · rw [if_pos q25]
    exact go 1082 (law_count (d := d) h hi)
  rw [if_neg q25]
  by_cases q26 : f i &&& 31 = 26
  · rw [if_pos q26]
    exact go 1105 (law_sheet (d := d) h hi)
  rw [if_neg q26]
  by_cases q27 : f i &&& 31 = 27
  · rw [if_pos q27]
    exact go 1148 (law_put (d := d) h hi)
  rw [if_neg q27]
  by_cases q28 : f i &&& 31 = 28
  · rw [if_pos q28]
    exact go 1191 (law_copy (d := d) h hi)
  rw [if_neg q28]
  exact go 1254 ⟨μ, σ, rfl, h, ⟨⟨Nat.le_refl _, Nat.le_add_right _ _⟩, Nat.le_refl _, Nat.le_add_right _ _⟩⟩
theorem law_loop : ∀ (k i : Nat) (μ : jM) (σ : SG), n < i + 7 * (k + 1) → i ≤ n + 7 → LWS μ X S n f σ → ∃ μ' σ', jR (d + 460) 10 18 [.ref S, .ref X, .ref (X + 342), .int (N i)] [] μ = some (some (.int (N 1)), μ') ∧ LWS μ' X S n f σ' ∧ Gw (404 * k) (10500 * k) μ μ' := by
  have out : ∀ (i : Nat) (μ : jM) (σ : SG), n < i + 7 → i ≤ n + 7 → LWS μ X S n f σ → jR (d + 460) 10 18 [.ref S, .ref X, .ref (X + 342), .int (N i)] [] μ = some (some (.int (N 1)), μ) := fun i μ σ hi hj h => by
    have s1 := h.2.2.2.2
    have n35 := s1.2.2.2.1
    rw [b10_18 (h0 := ir_ref)]
    simp only [s1.al, Option.bind_some]
    rw [if_pos (by rw [lw_7 n35 (by omega)]; exact hi)]
    rfl
  intro k
  induction k with
  | zero =>
    intro i μ σ hk hj h
    exact ⟨μ, σ, out i μ σ (by omega) hj h, h, ⟨⟨Nat.le_refl _, Nat.le_add_right _ _⟩, Nat.le_refl _, Nat.le_add_right _ _⟩⟩
  | succ k ih =>
    intro i μ σ hk hj h
    by_cases hi : i + 7 ≤ n
    · obtain ⟨μ1, σ1, c1, h1, g1⟩ := law_step (d := d) h hi
      obtain ⟨μ2, σ2, c2, h2, g2⟩ := ih (i + 7) μ1 σ1 (by omega) (by omega) h1
      exact ⟨μ2, σ2, c1.trans c2, h2, (g1.trans g2).up (by omega) (by omega)⟩
    · exact ⟨μ, σ, out i μ σ (by omega) hj h, h, ⟨⟨Nat.le_refl _, Nat.le_add_right _ _⟩, Nat.le_refl _, Nat.le_add_right _ _⟩⟩
end LAW
