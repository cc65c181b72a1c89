/-! THE REFERENCE: values; a cell told -/
section LAY
variable {μ μ' μ'' ν : jM} {S : List Nat} {M g h t s n w d D i j k x y a b c f q p H rt : Nat} {G : DG} {L A B : List (Int32 × Int32)} {v : Int32} {r : VT} {e e1 e2 : Ex}
theorem aBool (hk : jk μ a = 21) (hi : i < jl μ a) (hl : jl μ a < 1000000) : jaB μ (.ref a) (N i) = some (jiv μ a i) := by
  rw [aB_eq, if_pos ⟨Or.inl hk, by rw [jinb_N (by omega)]; exact decide_eq_true hi⟩, N_nat (by omega)]
theorem QS.val (hq : QS μ M) : (jrv μ M 27 = some (M + 401) ∧ jrv μ M 28 = some (M + 402) ∧ jrv μ M 29 = some (M + 403) ∧ jrv μ M 30 = some (M + 404)) ∧ (jk μ (M + 401) = 20 ∧ jl μ (M + 401) = 24) ∧ (jk μ (M + 402) = 20 ∧ jl μ (M + 402) = 24) ∧ (jk μ (M + 403) = 21 ∧ jl μ (M + 403) = 24) ∧ jk μ (M + 404) = 21 ∧ jl μ (M + 404) = 24 :=
  ⟨⟨hq.2.1 27 401 rfl, hq.2.1 28 402 rfl, hq.2.1 29 403 rfl, hq.2.1 30 404 rfl⟩, hq.kd (o := 401) (by decide) rfl, hq.kd (o := 402) (by decide) rfl, hq.kd (o := 403) (by decide) rfl, hq.kd (o := 404) (by decide) rfl⟩
/-- what was told -/
theorem v_31 (hq : QS μ M) (hc : c < 24) : jR d 210 31 [.ref M, .int (N c)] [] μ = some (some (.int (jiv μ (M + 401) c)), jsetI μ M 33 (jiv μ (M + 402) c)) := by
  obtain ⟨⟨q27, q28, q29, q30⟩, k1, k2, k3, k4⟩ := hq.val
  have e1 := ent_get (μ := μ) (i := c) k2.1 k2.2 hc (by decide)
  have e2 := ent_get (μ := jsetI μ M 33 (jiv μ (M + 402) c)) (i := c) k1.1 k1.2 hc (by decide)
  rw [show jiv (jsetI μ M 33 (jiv μ (M + 402) c)) (M + 401) = jiv μ (M + 401) from iv_setIn (by omega)] at e2
  have kX : jk (jsetI μ M 33 (jiv μ (M + 402) c)) M = 13 := hq.k13
  have rX : jrv (jsetI μ M 33 (jiv μ (M + 402) c)) = jrv μ := rfl
  rw [b210_31]
  simp only [gI13, gR13, pI13, pR13, rv13, hq.k13, q27, q28, e1, jfit0, and_true, if_true, Option.bind_some, rf_some, kX, rX, e2]
theorem ivs {v : Int32} : jiv (jsetI μ a k v) a j = if j = k then v else jiv μ a j := by
  show (if a = a ∧ j = k then v else jiv μ a j) = _
  by_cases e : j = k
  · rw [if_pos ⟨rfl, e⟩, if_pos e]
  · rw [if_neg (fun q => e q.2), if_neg e]
/-- a formula begins -/
def mB (μ : jM) (M c f : Nat) (num : Int32) : jM := jsetI (jsetI (jsetR (jsetI (jsetI (jsetI μ (M + 402) c (N 0)) (M + 401) c num) (M + 404) c (N 1)) M 34 (some f)) M 32 (N 0)) M 33 (N 0)
/-- and is told -/
def mE (μ : jM) (M c : Nat) (v w : Int32) (o : Option Nat) (pl : Int32) : jM := jsetI (jsetI (jsetI (jsetR (jsetI (jsetI μ (M + 401) c v) (M + 402) c w) M 34 o) M 32 pl) (M + 404) c (N 0)) (M + 403) c (N 1)
theorem mB_fe {num : Int32} : FE M μ (mB μ M c f num) := by
  unfold mB
  refine ⟨Fx.setI (Fx.setI (Fx.setR (Fx.setI (Fx.setI (Fx.setI Fx.refl ?_) ?_) ?_) ⟨rfl, rfl⟩) (Or.inl rfl)) (Or.inl rfl), fun j h1 h2 => ?_⟩
  · exact Or.inr (by omega)
  · exact Or.inr (by omega)
  · exact Or.inr (by omega)
  · rw [ivj h2, ivj h1]
    show jiv (jsetI (jsetI (jsetI μ (M + 402) c (N 0)) (M + 401) c num) (M + 404) c (N 1)) M j = _
    rw [iv_setIn (show ¬ M = M + 404 by omega), iv_setIn (show ¬ M = M + 401 by omega), iv_setIn (show ¬ M = M + 402 by omega)]
theorem mE_fe {w pl : Int32} {o : Option Nat} : FE M μ (mE μ M c v w o pl) := by
  unfold mE
  refine ⟨Fx.setI (Fx.setI (Fx.setI (Fx.setR (Fx.setI (Fx.setI Fx.refl ?_) ?_) ⟨rfl, rfl⟩) (Or.inl rfl)) ?_) ?_, fun j h1 h2 => ?_⟩
  · exact Or.inr (by omega)
  · exact Or.inr (by omega)
  · exact Or.inr (by omega)
  · exact Or.inr (by omega)
  · rw [iv_setIn (show ¬ M = M + 403 by omega), iv_setIn (show ¬ M = M + 404 by omega), ivj h1]
    show jiv (jsetI (jsetI μ (M + 401) c v) (M + 402) c w) M j = _
    rw [iv_setIn (show ¬ M = M + 402 by omega), iv_setIn (show ¬ M = M + 401 by omega)]
theorem mB_v {num : Int32} : jiv (mB μ M c f num) (M + 401) = (fun j => if j = c then num else jiv μ (M + 401) j) ∧ jiv (mB μ M c f num) (M + 402) = (fun j => if j = c then N 0 else jiv μ (M + 402) j) ∧ jiv (mB μ M c f num) (M + 403) = jiv μ (M + 403) ∧ jiv (mB μ M c f num) (M + 404) = (fun j => if j = c then N 1 else jiv μ (M + 404) j) := by
  unfold mB
  refine ⟨?_, ?_, ?_, ?_⟩ <;> funext j <;> rw [iv_setIn (by omega), iv_setIn (by omega)]
  · show jiv (jsetI (jsetI (jsetI μ (M + 402) c (N 0)) (M + 401) c num) (M + 404) c (N 1)) (M + 401) j = _
    rw [iv_setIn (by omega)]
    show (if M + 401 = M + 401 ∧ j = c then num else jiv (jsetI μ (M + 402) c (N 0)) (M + 401) j) = _
    rw [iv_setIn (by omega)]
    by_cases e : j = c
    · rw [if_pos ⟨rfl, e⟩, if_pos e]
    · rw [if_neg (fun q => e q.2), if_neg e]
  · show jiv (jsetI (jsetI (jsetI μ (M + 402) c (N 0)) (M + 401) c num) (M + 404) c (N 1)) (M + 402) j = _
    rw [iv_setIn (by omega), iv_setIn (by omega)]
    show (if M + 402 = M + 402 ∧ j = c then N 0 else jiv μ (M + 402) j) = _
    by_cases e : j = c
    · rw [if_pos ⟨rfl, e⟩, if_pos e]
    · rw [if_neg (fun q => e q.2), if_neg e]
  · show jiv (jsetI (jsetI (jsetI μ (M + 402) c (N 0)) (M + 401) c num) (M + 404) c (N 1)) (M + 403) j = _
    rw [iv_setIn (by omega), iv_setIn (by omega), iv_setIn (by omega)]
  · show (if M + 404 = M + 404 ∧ j = c then N 1 else jiv (jsetI (jsetI μ (M + 402) c (N 0)) (M + 401) c num) (M + 404) j) = _
    rw [iv_setIn (by omega), iv_setIn (by omega)]
    by_cases e : j = c
    · rw [if_pos ⟨rfl, e⟩, if_pos e]
    · rw [if_neg (fun q => e q.2), if_neg e]
theorem mE_v {w pl : Int32} {o : Option Nat} : jiv (mE μ M c v w o pl) (M + 401) = (fun j => if j = c then v else jiv μ (M + 401) j) ∧ jiv (mE μ M c v w o pl) (M + 402) = (fun j => if j = c then w else jiv μ (M + 402) j) ∧ jiv (mE μ M c v w o pl) (M + 403) = (fun j => if j = c then N 1 else jiv μ (M + 403) j) ∧ jiv (mE μ M c v w o pl) (M + 404) = (fun j => if j = c then N 0 else jiv μ (M + 404) j) := by
  unfold mE
  refine ⟨?_, ?_, ?_, ?_⟩ <;> funext j
  · rw [iv_setIn (by omega), iv_setIn (by omega), iv_setIn (by omega)]
    show jiv (jsetI (jsetI μ (M + 401) c v) (M + 402) c w) (M + 401) j = _
    rw [iv_setIn (by omega)]
    show (if M + 401 = M + 401 ∧ j = c then v else jiv μ (M + 401) j) = _
    by_cases e : j = c
    · rw [if_pos ⟨rfl, e⟩, if_pos e]
    · rw [if_neg (fun q => e q.2), if_neg e]
  · rw [iv_setIn (by omega), iv_setIn (by omega), iv_setIn (by omega)]
    show (if M + 402 = M + 402 ∧ j = c then w else jiv (jsetI μ (M + 401) c v) (M + 402) j) = _
    rw [iv_setIn (by omega)]
    by_cases e : j = c
    · rw [if_pos ⟨rfl, e⟩, if_pos e]
    · rw [if_neg (fun q => e q.2), if_neg e]
  · rw [ivs, iv_setIn (show ¬ M + 403 = M + 404 by omega), iv_setIn (show ¬ M + 403 = M by omega)]
    show (if j = c then N 1 else jiv (jsetI (jsetI μ (M + 401) c v) (M + 402) c w) (M + 403) j) = _
    rw [iv_setIn (by omega), iv_setIn (by omega)]
  · rw [iv_setIn (show ¬ M + 404 = M + 403 by omega), ivs, iv_setIn (show ¬ M + 404 = M by omega)]
    show (if j = c then N 0 else jiv (jsetI (jsetI μ (M + 401) c v) (M + 402) c w) (M + 404) j) = _
    rw [iv_setIn (by omega), iv_setIn (by omega)]
/-- what is known behind a cell's telling -/
theorem EI.tell (h : EI G μ M (c :: S)) (hc : c < 24) (hn : c ∉ S) (e1 : jiv μ' (M + 401) = fun j => if j = c then v else jiv μ (M + 401) j) (e2 : jiv μ' (M + 402) = fun j => if j = c then r.1 else jiv μ (M + 402) j) (e3 : jiv μ' (M + 403) = fun j => if j = c then N 1 else jiv μ (M + 403) j) (e4 : jiv μ' (M + 404) = fun j => if j = c then N 0 else jiv μ (M + 404) j) (hr : r = vlC G (c / 3) (c % 3)) (hv : r.1 = N 0 → v = r.2) : EI G μ' M S := by
  intro c' hc'
  rw [e1, e2, e3, e4]
  by_cases e : c' = c
  · subst e
    refine Or.inr ⟨if_pos rfl, hn, Or.inr ⟨if_pos rfl, ?_, fun q => ?_⟩⟩
    · show _ = (if c' = c' then _ else _)
      rw [if_pos rfl, hr]
    · have q : (if c' = c' then r.1 else _) = N 0 := q
      rw [if_pos rfl] at q
      show (if c' = c' then v else _) = _
      rw [if_pos rfl, ← hr]
      exact hv q
  · simp only [if_neg e]
    have := h c' hc'
    rw [List.mem_cons] at this
    rcases this with ⟨a1, a2⟩ | ⟨a1, a2, a3⟩
    · exact Or.inl ⟨a1, a2.resolve_left e⟩
    · exact Or.inr ⟨a1, fun q => a2 (Or.inr q), a3⟩
/-- a cell being asked -/
theorem EI.ask (h : EI G μ M S) (hn : c ∉ S) (e1 : ∀ j, j ≠ c → jiv μ' (M + 401) j = jiv μ (M + 401) j) (e2 : ∀ j, j ≠ c → jiv μ' (M + 402) j = jiv μ (M + 402) j) (e3 : jiv μ' (M + 403) = jiv μ (M + 403)) (e4 : jiv μ' (M + 404) = fun j => if j = c then N 1 else jiv μ (M + 404) j) : EI G μ' M (c :: S) := by
  intro c' hc'
  rw [e3, e4]
  by_cases e : c' = c
  · subst e
    exact Or.inl ⟨if_pos rfl, List.mem_cons_self ..⟩
  · simp only [if_neg e]
    rw [e1 c' e, e2 c' e]
    rcases h c' hc' with ⟨a1, a2⟩ | ⟨a1, a2, a3⟩
    · exact Or.inl ⟨a1, List.mem_cons_of_mem _ a2⟩
    · exact Or.inr ⟨a1, fun q => (List.mem_cons.mp q).elim e a2, a3⟩
end LAY
