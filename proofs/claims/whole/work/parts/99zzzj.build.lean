/-! CONSTRUCTORS: a memory built behind another one -/
/-- behind mu: p arrays and objects (kinds L, numbers I, references R, all counted from there), of W slots -/
def bld (μ : jM) (p W : Nat) (L : Nat → Nat × Nat) (I : Nat → Nat → Int32) (R : Nat → Nat → Option Nat) : jM :=
  (μ.1, fun a => if jsz μ ≤ a ∧ a < jsz μ + p then some (L (a - jsz μ)) else μ.2.1 a, fun a j => if jsz μ ≤ a ∧ a < jsz μ + p then I (a - jsz μ) j else μ.2.2.1 a j, fun a j => if jsz μ ≤ a ∧ a < jsz μ + p then (R (a - jsz μ) j).map (fun t => jsz μ + t) else μ.2.2.2.1 a j, jsz μ + p, jsl μ + W)
section BLDM
variable {μ : jM} {p W k n w o j t : Nat} {L : Nat → Nat × Nat} {I : Nat → Nat → Int32} {R : Nat → Nat → Option Nat} {v : Int32}
theorem bld_sz : jsz (bld μ p W L I R) = jsz μ + p := rfl
theorem bld_sl : jsl (bld μ p W L I R) = jsl μ + W := rfl
theorem bld_k (h : o < p) : jk (bld μ p W L I R) (jsz μ + o) = (L o).1 := by
  unfold jk
  show ((if jsz μ ≤ jsz μ + o ∧ jsz μ + o < jsz μ + p then some (L (jsz μ + o - jsz μ)) else μ.2.1 (jsz μ + o)).map _).getD _ = _
  rw [if_pos ⟨by omega, by omega⟩, show jsz μ + o - jsz μ = o by omega]
  rfl
theorem bld_l (h : o < p) : jl (bld μ p W L I R) (jsz μ + o) = (L o).2 := by
  unfold jl
  show ((if jsz μ ≤ jsz μ + o ∧ jsz μ + o < jsz μ + p then some (L (jsz μ + o - jsz μ)) else μ.2.1 (jsz μ + o)).map _).getD _ = _
  rw [if_pos ⟨by omega, by omega⟩, show jsz μ + o - jsz μ = o by omega]
  rfl
theorem bld_iv (h : o < p) : jiv (bld μ p W L I R) (jsz μ + o) j = I o j := by
  show (if jsz μ ≤ jsz μ + o ∧ jsz μ + o < jsz μ + p then I (jsz μ + o - jsz μ) j else μ.2.2.1 (jsz μ + o) j) = _
  rw [if_pos ⟨by omega, by omega⟩, show jsz μ + o - jsz μ = o by omega]
theorem bld_rv (h : o < p) : jrv (bld μ p W L I R) (jsz μ + o) j = (R o j).map (fun t => jsz μ + t) := by
  show (if jsz μ ≤ jsz μ + o ∧ jsz μ + o < jsz μ + p then (R (jsz μ + o - jsz μ) j).map (fun t => jsz μ + t) else μ.2.2.2.1 (jsz μ + o) j) = _
  rw [if_pos ⟨by omega, by omega⟩, show jsz μ + o - jsz μ = o by omega]
/-- one more -/
theorem bld_new : jnew (bld μ p W L I R) k n w = bld μ (p + 1) (W + w) (fun o => if o = p then (k, n) else L o) (fun o j => if o = p then 0 else I o j) (fun o j => if o = p then none else R o j) := by
  unfold jnew bld
  refine Prod.ext rfl (Prod.ext ?_ (Prod.ext ?_ (Prod.ext ?_ (Prod.ext ?_ ?_))))
  · funext a
    show (if a = jsz μ + p then some (k, n) else if jsz μ ≤ a ∧ a < jsz μ + p then some (L (a - jsz μ)) else μ.2.1 a) = if jsz μ ≤ a ∧ a < jsz μ + (p + 1) then some (if a - jsz μ = p then (k, n) else L (a - jsz μ)) else μ.2.1 a
    by_cases e : a = jsz μ + p
    · rw [if_pos e, if_pos ⟨by omega, by omega⟩, if_pos (by omega)]
    · rw [if_neg e]
      by_cases e2 : jsz μ ≤ a ∧ a < jsz μ + p
      · rw [if_pos e2, if_pos ⟨by omega, by omega⟩, if_neg (by omega)]
      · rw [if_neg e2, if_neg (by omega)]
  · funext a j
    show (if a = jsz μ + p then (0 : Int32) else if jsz μ ≤ a ∧ a < jsz μ + p then I (a - jsz μ) j else μ.2.2.1 a j) = if jsz μ ≤ a ∧ a < jsz μ + (p + 1) then (if a - jsz μ = p then (0 : Int32) else I (a - jsz μ) j) else μ.2.2.1 a j
    by_cases e : a = jsz μ + p
    · rw [if_pos e, if_pos ⟨by omega, by omega⟩, if_pos (by omega)]
    · rw [if_neg e]
      by_cases e2 : jsz μ ≤ a ∧ a < jsz μ + p
      · rw [if_pos e2, if_pos ⟨by omega, by omega⟩, if_neg (by omega)]
      · rw [if_neg e2, if_neg (by omega)]
  · funext a j
    show (if a = jsz μ + p then none else if jsz μ ≤ a ∧ a < jsz μ + p then (R (a - jsz μ) j).map (fun t => jsz μ + t) else μ.2.2.2.1 a j) = if jsz μ ≤ a ∧ a < jsz μ + (p + 1) then (if a - jsz μ = p then none else R (a - jsz μ) j).map (fun t => jsz μ + t) else μ.2.2.2.1 a j
    by_cases e : a = jsz μ + p
    · rw [if_pos e, if_pos ⟨by omega, by omega⟩, if_pos (by omega)]
      rfl
    · rw [if_neg e]
      by_cases e2 : jsz μ ≤ a ∧ a < jsz μ + p
      · rw [if_pos e2, if_pos ⟨by omega, by omega⟩, if_neg (by omega)]
      · rw [if_neg e2, if_neg (by omega)]
  · rfl
  · show jsl μ + W + w = jsl μ + (W + w)
    omega
/-- a reference set -/
theorem bld_setR (h : o < p) : jsetR (bld μ p W L I R) (jsz μ + o) j (some (jsz μ + t)) = bld μ p W L I (fun o' j' => if o' = o ∧ j' = j then some t else R o' j') := by
  unfold jsetR bld
  refine Prod.ext rfl (Prod.ext rfl (Prod.ext rfl (Prod.ext ?_ rfl)))
  funext a j'
  show (if a = jsz μ + o ∧ j' = j then some (jsz μ + t) else if jsz μ ≤ a ∧ a < jsz μ + p then (R (a - jsz μ) j').map (fun t => jsz μ + t) else μ.2.2.2.1 a j') = if jsz μ ≤ a ∧ a < jsz μ + p then (if a - jsz μ = o ∧ j' = j then some t else R (a - jsz μ) j').map (fun t => jsz μ + t) else μ.2.2.2.1 a j'
  by_cases e : a = jsz μ + o ∧ j' = j
  · rw [if_pos e, if_pos ⟨by omega, by omega⟩, if_pos ⟨by omega, e.2⟩]
    rfl
  · rw [if_neg e]
    by_cases e2 : jsz μ ≤ a ∧ a < jsz μ + p
    · rw [if_pos e2, if_pos e2, if_neg (fun q => e ⟨by omega, q.2⟩)]
    · rw [if_neg e2, if_neg e2]
/-- a number set -/
theorem bld_setI (h : o < p) : jsetI (bld μ p W L I R) (jsz μ + o) j v = bld μ p W L (fun o' j' => if o' = o ∧ j' = j then v else I o' j') R := by
  unfold jsetI bld
  refine Prod.ext rfl (Prod.ext rfl (Prod.ext ?_ rfl))
  funext a j'
  show (if a = jsz μ + o ∧ j' = j then v else if jsz μ ≤ a ∧ a < jsz μ + p then I (a - jsz μ) j' else μ.2.2.1 a j') = if jsz μ ≤ a ∧ a < jsz μ + p then (if a - jsz μ = o ∧ j' = j then v else I (a - jsz μ) j') else μ.2.2.1 a j'
  by_cases e : a = jsz μ + o ∧ j' = j
  · rw [if_pos e, if_pos ⟨by omega, by omega⟩, if_pos ⟨by omega, e.2⟩]
  · rw [if_neg e]
    by_cases e2 : jsz μ ≤ a ∧ a < jsz μ + p
    · rw [if_pos e2, if_pos e2, if_neg (fun q => e ⟨by omega, q.2⟩)]
    · rw [if_neg e2, if_neg e2]
end BLDM
